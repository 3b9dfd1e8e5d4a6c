/-! THE CLAIM OUT OF ONE WALK OF THE LAW'S BODY. Your part is whole_start (and what it stands on); all else here is the same for every law, but numbers. -/
def R_law : String := "ShareNetsLaw"
def lw_P (b : Addr) (xs : List Int32) (args : Array Value) (s : State) : Prop := args = #[.ref b] ∧ s.IntsAt b xs ∧ xs.length ≤ 384 ∧ (Jvm.Cond.and given_1 narrow_1).before args s = true
def lw_Q (_ : Array Value) (s : State) (o : Outcome) (t : State) : Prop := o = .returned (some (.int 1)) ∧ Framed s o t [] 600000 7302250
def lw_Z (below : List Frame) (a : Array Value) (s : State) : State → Prop := fun t => ∃ o, t.status = .running ∧ Ended t below o ∧ lw_Q a s o t
/-- the law's own end, with 1 on the stack, nothing written that was there before, its room as the claim has it -/
theorem lw_ret {p : Program} {l : Launch} {e : Env} {s : State} {m : MethodId} {below : List Frame} {meth : Method} {c : Code} {b : Nat} (hx : p.tables.exec = Jvm.exec) (hb : c.code = code) (hr : meth.sig.returnType = ret) (hlocks : meth.locks = false) {pc : Nat} {H : Heap} {ls : Array Slot} (hdg : decode code pc = .ok (.ireturn, 1)) : W p l e room_1 s m #[Value.ref b] below meth c H [] 600000 7302250 (lw_Z below #[Value.ref b] s) (F0 m pc ls [.int 1]) := by
  intro T hT X
  obtain ⟨fs, hret, hrun, hended, hW, hframe⟩ := X.leave (v := some (.int 1)) (hlocks := hlocks) (fun h => by rw [hr] at h; cases h)
  have hmeth' : T.vm.method? m = some meth := X.method'
  refine ⟨T.setFrames fs, ?_, .returned (some (.int 1)), hrun, hended, rfl, ⟨_, rfl⟩, hW, hframe⟩
  jvm_step X.here [X.here.top, hx, hb, hdg, hmeth', hr, ret, narrow_b1]
  (try refine ⟨rfl, ?_⟩); (try refine ⟨rfl, ?_⟩)
  first | (intro acts; rw [hret _ acts rfl rfl rfl]) | rw [hret _ _ rfl rfl rfl]
  exact Steps.refl _
/-- what holds at the law's entry: the machine, the code, the tables' words (any of lw_tbl by 'hts w (by decide +kernel)'), the script of L ints xs at the cell b, what the Statement gives of the start (any of its parts by flat_of_before) -/
def lw_At (p : Program) (s : State) (m : MethodId) (meth : Method) (c : Code) (b L : Nat) (xs : Nat → Int32) : Prop :=
  p.tables.exec = Jvm.exec ∧ c.code = code ∧ meth.sig.returnType = ret ∧ c.maxLocals = 4 ∧ s.vm.findClass R_law = some m.cls ∧ (∀ w ∈ lw_tbl, w.before #[Value.ref b] s = true) ∧ va_X b L xs s s.heap ∧ b < s.heap.size ∧ meth.locks = false ∧ (Jvm.Cond.and given_1 narrow_1).before #[Value.ref b] s = true ∧ meth.name = (z_nm 285).name
/-! the start: what the Statement gives, as the interpreter's memory has it -/
def z_gv : Cond := Jvm.Cond.and given_1 narrow_1
def z_tm (i : Nat) : Term := .string "ShareNets$Tape" (([39, 60, 62, 64] : List Nat).getD i 0)
def z_ts (k : Nat) : Term := .static (z_stn k).1 (z_stn k).2.1 (z_stn k).2.2
theorem z_gv_el : ∀ k, k < 4 → ∀ j, j < (z_stc.getD k []).length → Cond.eq (.elem (z_ts k) (.int (Int32.ofNat j))) (.int ((z_stc.getD k []).getD j 0)) ∈ flatC z_gv := by decide +kernel
theorem z_gv_le : ∀ k, k < 4 → Cond.eq (.length (z_ts k)) (.int (Int32.ofNat (z_stc.getD k []).length)) ∈ flatC z_gv ∧ Cond.arrayOf (z_ts k) .int ∈ flatC z_gv ∧ (z_stc.getD k []).length < 2 ^ 31 := by decide +kernel
theorem z_gv_s1 : ∀ i, i < 4 → Cond.exactly (z_tm i) "java/lang/String" ∈ flatC z_gv := by decide +kernel
theorem z_gv_s2 : ∀ i, i < 4 → Cond.eq (.field (z_tm i) "java/lang/String" "coder" "B") (.int 0) ∈ flatC z_gv := by decide +kernel
theorem z_gv_s3 : ∀ i, i < 4 → Cond.arrayOf (.field (z_tm i) "java/lang/String" "value" "[B") .byte ∈ flatC z_gv := by decide +kernel
theorem z_gv_s4 : ∀ i, i < 4 → Cond.eq (.length (.field (z_tm i) "java/lang/String" "value" "[B")) (.int (Int32.ofNat (z_lens.getD i 0))) ∈ flatC z_gv := by decide +kernel
theorem z_gv_s5 : ∀ i, i < 4 → ∀ j, j < z_lens.getD i 0 → Cond.eq (.elem (.field (z_tm i) "java/lang/String" "value" "[B") (.int (Int32.ofNat j))) (.int ((z_sby.getD i []).getD j 0)) ∈ flatC z_gv := by decide +kernel
theorem z_gv_s6 : ∀ i, i < 4 → ∀ j, j < 4 → i ≠ j → Cond.not (Cond.eq (z_tm i) (z_tm j)) ∈ flatC z_gv ∨ Cond.not (Cond.eq (z_tm j) (z_tm i)) ∈ flatC z_gv := by decide +kernel
theorem z_gv_nc : ∀ c ∈ ([0, 3, 5, 6] : List Nat), ∀ d ∈ ([0, 5, 6] : List Nat), z_sub c d = false → Cond.not (.castable (z_cn c) (z_cn d)) ∈ flatC z_gv := by decide +kernel
theorem z_gv_c : Cond.eq (z_ts 4) (.int 1) ∈ flatC z_gv := by decide +kernel
theorem z_gv_f : Cond.isRef (z_ts 5) ∈ flatC z_gv := by decide +kernel
theorem z_tb_st : ∀ k, k < 6 → Cond.laysStatic (z_stn k).1 (z_stn k).2.1 (z_stn k).2.2 ∈ lw_tbl ∧ Cond.initialized (z_stn k).1 ∈ lw_tbl := by decide +kernel
theorem z_tb_sr : ∀ i, i < 4 → Cond.stringRef "ShareNets$Tape" (([39, 60, 62, 64] : List Nat).getD i 0) (z_stx i) ∈ lw_tbl := by decide +kernel
theorem z_tb_in : ∀ c, c < 13 → Cond.instantiable (z_cn c) (z_fn c) ∈ lw_tbl := by decide +kernel
theorem z_tb_ar : Cond.arrayClass .int ∈ lw_tbl ∧ Cond.arrayClass .long ∈ lw_tbl ∧ Cond.arrayOver (.object "ShareNets$Net") ∈ lw_tbl ∧ Cond.arrayOver (.object "ShareNets$Share") ∈ lw_tbl ∧ Cond.arrayOver (.object "ShareNets$Sheet") ∈ lw_tbl := by decide +kernel
theorem z_wk_of {w : Cond} (hw : z_wk w = true) {s : State} {args : Array Value} (h : w.before args s = true) : va_Nw w s := by
  unfold z_wk at hw
  split at hw
  all_goals first
    | exact va_Nw.of rfl h
    | exact va_AO.of h
    | exact h
    | (simp only [Bool.and_eq_true] at hw; exact va_Nw.of hw.1 h)
theorem z_arr_of {U : State} {args : Array Value} {ty : FieldType} (hp : ∀ C, ty ≠ .object C) (h : (Cond.arrayClass ty).before args U = true) : ∃ cA : ClassId, ArrOfT U cA ty ∧ va_RA U cA ty := by
  obtain ⟨cA, kA, comp, f1, f2, f3⟩ := Cond.arrayClass_spec (args := args) (first := U) (o := none) (idx := []) h
  refine ⟨cA, fun N z1 => ⟨(fun k h => by cases h), kA, f2, comp, f3⟩, ?_⟩
  cases ty with
  | object C => exact absurd rfl (hp C)
  | _ => exact f1
theorem z_aro_of {U : State} {args : Array Value} {C : String} (h : (Cond.arrayOver (.object C)).before args U = true) : ∃ cA : ClassId, ArrOfT U cA (.object C) ∧ va_RA U cA (.object C) := by
  obtain ⟨comp, cA, kA, f1, -, f2, f3, f4⟩ := Cond.arrayOver_spec (args := args) (first := U) (o := none) (idx := []) h
  exact ⟨cA, fun N z1 => ⟨(fun k h => by cases h), kA, f2, comp, f3⟩, kA, comp, f2, f3, f1, f4⟩
/-- the memory at the start -/
def z_M0 (L : Nat) (xs : Nat → Int32) : z_M := (false, (0, 0, fun _ => 0, fun _ _ _ => none), (fun t i j => if t = 67 then (if i = 0 then xs j else Int32.ofNat L) else 0), fun _ _ _ => 0)
theorem z_beg {p : Program} {s : State} {m : MethodId} {meth : Method} {c : Code} {b L : Nat} {xs : Nat → Int32} (hL : L ≤ 384) (C0 : lw_At p s m meth c b L xs) : ∃ G : z_G, G.2.2.1 = s.heap.size ∧ G.2.2.2 67 0 = .ref b ∧ z_Fx G L xs p s m meth c 285 (z_M0 L xs) := by
  obtain ⟨hx, hb, hr, hml, hown, hts, hX, hbl, hlocks, hgv, hnm⟩ := C0
  have hs := flat_of_before _ hgv
  have hA : ∀ a : Nat, a < s.heap.size → ¬ z_A s.heap.size a := fun a h1 h2 => absurd h1 (Nat.not_lt.mpr h2)
  -- texts
  obtain ⟨adK, adV, hK1, hK2⟩ := vk_Sof (args := #[Value.ref b]) (s := s) (N := 4) (tm := z_tm) (len := z_lens) (byt := z_sby) (A := z_A s.heap.size) (by decide) (fun i hi => hs _ (z_gv_s1 i hi)) (fun i hi => hs _ (z_gv_s2 i hi)) (fun i hi => hs _ (z_gv_s3 i hi)) (fun i hi => hs _ (z_gv_s4 i hi)) (fun i hi j hj => hs _ (z_gv_s5 i hi j hj))
    (fun i j hi hj hij => (z_gv_s6 i hi j hj hij).imp (hs _) (hs _)) hA
  -- constant rows
  have hrow : ∀ k, ∃ t : Nat, k < 4 → va_Z (z_stn k).1 (z_stn k).2.1 (z_stn k).2.2 (.ref t) (z_A s.heap.size) s s.heap ∧ va_T .int t (z_stc.getD k []).length (fun j => .int ((z_stc.getD k []).getD j 0)) (z_A s.heap.size) s s.heap := by
    intro k
    by_cases hk : k < 4
    · obtain ⟨g1, g2, g3⟩ := z_gv_le k hk
      obtain ⟨t, ht, hT⟩ := va_Tof (args := #[Value.ref b]) (s := s) (tm := z_ts k) (ty := .int) (f := fun j => .int ((z_stc.getD k []).getD j 0)) (A := z_A s.heap.size) g3 (hs _ g2) (va_eqt (hs _ g1)) (fun j hj => va_eqt (hs _ (z_gv_el k hk j hj))) hA
      exact ⟨t, fun _ => ⟨va_Zof (hts _ (z_tb_st k (by omega)).1) (hts _ (z_tb_st k (by omega)).2) ht hA, hT⟩⟩
    · exact ⟨0, fun h => absurd h hk⟩
  obtain ⟨atr, hatr⟩ := Classical.axiomOfChoice hrow
  -- the formatter
  obtain ⟨fv, hfv, hfr⟩ := Cond.isRef_spec (args := #[Value.ref b]) (first := s) (o := none) (idx := []) (hs _ z_gv_f)
  -- the classes
  have hkn : ∀ c9 : Nat, ∃ q : ClassId × (Nat → Nat), c9 < 13 → u_Kn s (z_cn c9) (z_clT c9) (z_fn c9) q.1 q.2 := by
    intro c9
    by_cases hc : c9 < 13
    · obtain ⟨q1, q2, q3⟩ := u_known (ws := z_tbl) (C := z_cn c9) (T := z_clT c9) (N := z_fn c9) (n := z_fn c9) (fun w hw => hts w (List.mem_filter.mp hw).1) (z_lays c9 hc) (hts _ (z_tb_in c9 hc))
      exact ⟨(q1, q2), fun _ => q3⟩
    · exact ⟨(0, fun _ => 0), fun h => absurd h hc⟩
  obtain ⟨kn, hkn⟩ := Classical.axiomOfChoice hkn
  -- the row classes
  obtain ⟨t1, t2, t3, t4, t5⟩ := z_tb_ar
  obtain ⟨a0, ha0⟩ := z_arr_of (ty := .int) (fun C h => by cases h) (hts _ t1)
  obtain ⟨a1, ha1⟩ := z_arr_of (ty := .long) (fun C h => by cases h) (hts _ t2)
  obtain ⟨a2, ha2⟩ := z_aro_of (hts _ t3)
  obtain ⟨a3, ha3⟩ := z_aro_of (hts _ t4)
  obtain ⟨a4, ha4⟩ := z_aro_of (hts _ t5)
  refine ⟨((fun c9 => (kn c9).1, fun c9 => (kn c9).2), (fun e9 => if e9 = 0 then a0 else if e9 = 1 then a1 else if e9 = 2 then a2 else if e9 = 3 then a3 else a4), s.heap.size, fun t i => if t = 64 then .ref (adK i) else if t = 65 then .ref (adV i) else if t = 66 then .ref (atr i) else if t = 67 then .ref b else fv), rfl, rfl, ?_⟩
  refine ⟨hx, hb, hml, hown, hr, hlocks, hnm, ?_, rfl, ⟨?_, ?_⟩, ⟨rfl, fun j _ => rfl⟩, ⟨?_, ?_⟩, ?_, ?_⟩
  · intro k q h
    cases h
  · intro h; cases h
  · intro t i j q h; cases h
  · intro c9 q hq
    have h13 : c9 < 13 := (List.getElem?_eq_some_iff.mp hq).1
    rw [z_cl_at c9 h13] at hq
    cases hq
    exact hkn c9 h13
  · intro k q hq
    match k, hq with
    | 0, hq => cases hq; exact ha0
    | 1, hq => cases hq; exact ha1
    | 2, hq => cases hq; exact ha2
    | 3, hq => cases hq; exact ha3
    | 4, hq => cases hq; exact ha4
    | k + 5, hq => exact absurd (List.getElem?_eq_some_iff.mp hq).1 (by show ¬ k + 5 < 5; omega)
  · intro w hw
    exact z_wk_of (List.all_eq_true.mp z_wk_all w hw) (hts w (List.mem_filter.mp hw).1)
  · refine ⟨?_, ⟨adK, adV, fun i hi => ⟨rfl, rfl⟩, hK1, fun i hi => vk_R.of (hts _ (z_tb_sr i hi)) (hK2 i hi)⟩, fun k hk => ⟨atr k, rfl, (hatr k hk).1, (hatr k hk).2⟩, ?_, ?_, ⟨b, rfl, hbl, hX⟩, fun c9 hc d9 hd hsub => va_Nc.of (hs _ (z_gv_nc c9 hc d9 hd hsub)), by omega⟩
    · intro t i
      show (if t = 64 then _ else _) = _ ∨ ∃ a, (if t = 64 then _ else _) = _
      by_cases h1 : t = 64
      · rw [if_pos h1]; exact Or.inr ⟨_, rfl⟩
      · rw [if_neg h1]
        by_cases h2 : t = 65
        · rw [if_pos h2]; exact Or.inr ⟨_, rfl⟩
        · rw [if_neg h2]
          by_cases h3 : t = 66
          · rw [if_pos h3]; exact Or.inr ⟨_, rfl⟩
          · rw [if_neg h3]
            by_cases h4 : t = 67
            · rw [if_pos h4]; exact Or.inr ⟨_, rfl⟩
            · rw [if_neg h4]
              cases fv with
              | ref a => exact Or.inr ⟨a, rfl⟩
              | null => exact Or.inl rfl
              | _ => cases hfr
    · exact va_Zof (hts _ (z_tb_st 4 (by decide)).1) (hts _ (z_tb_st 4 (by decide)).2) (va_eqi (hs _ z_gv_c)) hA
    · exact va_Zof (hts _ (z_tb_st 5 (by decide)).1) (hts _ (z_tb_st 5 (by decide)).2) hfv hA
