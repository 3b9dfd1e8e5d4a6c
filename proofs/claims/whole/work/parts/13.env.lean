/-! the classes, what lies outside, a state that holds a memory -/
def z_clT (c : Nat) : u_T := (z_cl.getD c ("", z_T0, 0)).2.1
def z_ty (c : Nat) : Nat → FieldType := z_tyl.getD c z_y0
theorem z_cl_at : ∀ c, c < 13 → z_cl[c]? = some (z_cn c, z_clT c, z_fn c) := by
  intro c h
  match c, h with
  | 0, _ | 1, _ | 2, _ | 3, _ | 4, _ | 5, _ | 6, _ | 7, _ | 8, _ | 9, _ | 10, _ | 11, _ | 12, _ => rfl
theorem z_cls_nm : ∀ c, c < 13 → ∀ a, a < z_fn c → ∀ b, b < z_fn c → a ≠ b → (z_clT c a).2.1 ≠ (z_clT c b).2.1 := by decide +kernel
theorem z_cls_ty : ∀ c, c < 13 → ∀ k, k < z_fn c → parseFieldDescriptor (z_clT c k).2.2.1 = some (z_ty c k) := by decide +kernel
/-- type codes and types agree -/
theorem z_cls_tc : ∀ c, c < 13 → ∀ k, k < z_fn c → ((z_ftl.getD c []).getD k 9 = 0 ∧ z_ty c k = .int) ∨ ((z_ftl.getD c []).getD k 9 = 1 ∧ z_ty c k = .long) ∨ ((z_ftl.getD c []).getD k 9 = 3 ∧ z_ty c k = .boolean) ∨ ((z_ftl.getD c []).getD k 9 = 2 ∧ defaultValue (z_ty c k) = .null ∧ fits (z_ty c k) .null = true ∧ fits (z_ty c k) (.ref 0) = true) := by decide +kernel
theorem z_cls_len : ∀ c, c < 13 → (z_ftl.getD c []).length = z_fn c := by decide +kernel
/-- a share's four classes have the same fields -/
theorem z_cls_sh : ∀ c ∈ ([0, 3, 5, 6] : List Nat), c < 13 ∧ z_fn c = 4 ∧ (z_ftl.getD c []) = z_ftl.getD 3 [] ∧ ∀ k, k < 4 → z_clT c k = z_clT 3 k := by decide +kernel
theorem z_tc13 : ∀ t, t < 64 → ∀ c, z_tc t = some c → c < 13 ∧ z_ta t = none ∧ t ≠ 32 := by
  have h : ∀ t, t < 64 → (match z_tc t with | none => true | some c => decide (c < 13 ∧ z_ta t = none ∧ t ≠ 32)) = true := by decide +kernel
  intro t ht c hc
  have := h t ht
  rw [hc] at this
  simpa using this
theorem z_ta5 : ∀ t, t < 64 → ∀ e n, z_ta t = some (e, n) → e < 5 ∧ n < 1000 ∧ z_tc t = none := by
  have h : ∀ t, t < 64 → (match z_ta t with | none => true | some (e, n) => decide (e < 5 ∧ n < 1000 ∧ z_tc t = none)) = true := by decide +kernel
  intro t ht e n hc
  have := h t ht
  rw [hc] at this
  simpa using this
theorem z_ta_lt {t : Nat} {q : Nat × Nat} (h : z_ta t = some q) : t < 64 := by
  rcases Nat.lt_or_ge t 64 with g | g
  · exact g
  · unfold z_ta at h
    rw [List.getD_eq_getElem?_getD, List.getElem?_eq_none (by exact g)] at h
    cases h
theorem z_tc_lt' {t c : Nat} (h : z_tc t = some c) : t < 64 := by
  rcases Nat.lt_or_ge t 64 with g | g
  · exact g
  · unfold z_tc at h
    rw [List.getD_eq_getElem?_getD, List.getElem?_eq_none (by exact g)] at h
    cases h
theorem z_lay_0 : u_ws (z_cn 0) (z_clT 0) (z_fn 0) = ([839, 840, 841, 842] : List Nat).filterMap (fun i => lw_tbl[i]?) := by decide +kernel
theorem z_lay_1 : u_ws (z_cn 1) (z_clT 1) (z_fn 1) = ([138, 140, 142, 144, 146, 148, 150] : List Nat).filterMap (fun i => lw_tbl[i]?) := by decide +kernel
theorem z_lay_2 : u_ws (z_cn 2) (z_clT 2) (z_fn 2) = ([169, 171] : List Nat).filterMap (fun i => lw_tbl[i]?) := by decide +kernel
theorem z_lay_3 : u_ws (z_cn 3) (z_clT 3) (z_fn 3) = ([847, 848, 849, 850] : List Nat).filterMap (fun i => lw_tbl[i]?) := by decide +kernel
theorem z_lay_4 : u_ws (z_cn 4) (z_clT 4) (z_fn 4) = ([279, 281, 283] : List Nat).filterMap (fun i => lw_tbl[i]?) := by decide +kernel
theorem z_lay_5 : u_ws (z_cn 5) (z_clT 5) (z_fn 5) = ([828, 829, 830, 831] : List Nat).filterMap (fun i => lw_tbl[i]?) := by decide +kernel
theorem z_lay_6 : u_ws (z_cn 6) (z_clT 6) (z_fn 6) = ([813, 815, 817, 819] : List Nat).filterMap (fun i => lw_tbl[i]?) := by decide +kernel
theorem z_lay_7 : u_ws (z_cn 7) (z_clT 7) (z_fn 7) = ([261, 263] : List Nat).filterMap (fun i => lw_tbl[i]?) := by decide +kernel
theorem z_lay_8 : u_ws (z_cn 8) (z_clT 8) (z_fn 8) = ([218, 220, 222, 224, 226] : List Nat).filterMap (fun i => lw_tbl[i]?) := by decide +kernel
theorem z_lay_9 : u_ws (z_cn 9) (z_clT 9) (z_fn 9) = ([242, 244, 246] : List Nat).filterMap (fun i => lw_tbl[i]?) := by decide +kernel
theorem z_lay_10 : u_ws (z_cn 10) (z_clT 10) (z_fn 10) = ([188, 190, 192, 194, 196, 198, 200] : List Nat).filterMap (fun i => lw_tbl[i]?) := by decide +kernel
theorem z_lay_11 : u_ws (z_cn 11) (z_clT 11) (z_fn 11) = ([303, 305, 307, 309, 311, 313, 315, 317, 319, 321, 323, 325, 327, 329, 331, 333, 335] : List Nat).filterMap (fun i => lw_tbl[i]?) := by decide +kernel
theorem z_lay_12 : u_ws (z_cn 12) (z_clT 12) (z_fn 12) = ([1146, 1148, 1150, 1152, 1154, 1156, 1158, 1160, 1162, 1164, 1166, 1168, 1170, 1172, 1174, 1176, 1178, 1180, 1182, 1184, 1186, 1188, 1190, 1192, 1194, 1196, 1198, 1200, 1202, 1204, 1206, 1208, 1210, 1212, 1214, 1216, 1218, 1220, 1222, 1224, 1226, 1228, 1230, 1232, 1234, 1236, 1238, 1240, 1242, 1244, 1246, 1248, 1250, 1252, 1254, 1256] : List Nat).filterMap (fun i => lw_tbl[i]?) := by decide +kernel
theorem z_lays_of {ws : List Cond} {ps : List Nat} (h : ws = ps.filterMap (fun i => lw_tbl[i]?)) (hx : ws.all z_wx = true) : ∀ w ∈ ws, w ∈ z_tbl := by
  intro w hw
  have hx := List.all_eq_true.mp hx w hw
  rw [h] at hw
  obtain ⟨i, -, hi⟩ := List.mem_filterMap.mp hw
  exact z_tbl_of (List.mem_of_getElem? hi) hx
theorem z_lays : ∀ c, c < 13 → ∀ w ∈ u_ws (z_cn c) (z_clT c) (z_fn c), w ∈ z_tbl := by
  intro c hc
  match c, hc with
  | 0, _ => exact z_lays_of z_lay_0 (by decide +kernel)
  | 1, _ => exact z_lays_of z_lay_1 (by decide +kernel)
  | 2, _ => exact z_lays_of z_lay_2 (by decide +kernel)
  | 3, _ => exact z_lays_of z_lay_3 (by decide +kernel)
  | 4, _ => exact z_lays_of z_lay_4 (by decide +kernel)
  | 5, _ => exact z_lays_of z_lay_5 (by decide +kernel)
  | 6, _ => exact z_lays_of z_lay_6 (by decide +kernel)
  | 7, _ => exact z_lays_of z_lay_7 (by decide +kernel)
  | 8, _ => exact z_lays_of z_lay_8 (by decide +kernel)
  | 9, _ => exact z_lays_of z_lay_9 (by decide +kernel)
  | 10, _ => exact z_lays_of z_lay_10 (by decide +kernel)
  | 11, _ => exact z_lays_of z_lay_11 (by decide +kernel)
  | 12, _ => exact z_lays_of z_lay_12 (by decide +kernel)
def z_lens : List Nat := [5, 3, 4, 4]
/-- what lies outside our cells: texts, constant rows, the script, a formatter; classes that are not one another's -/
def z_Ex (G : z_G) (L : Nat) (xs : Nat → Int32) (s : State) : Prop :=
  (∀ t i, G.2.2.2 t i = .null ∨ ∃ a, G.2.2.2 t i = .ref a) ∧
  (∃ adK adV : Nat → Nat, (∀ i, i < 4 → G.2.2.2 64 i = .ref (adK i) ∧ G.2.2.2 65 i = .ref (adV i)) ∧ vk_S 4 z_lens z_sby adK adV (z_A G.2.2.1) s s.heap ∧ ∀ i, i < 4 → vk_R "ShareNets$Tape" (([39, 60, 62, 64] : List Nat).getD i 0) (z_stx i) (adK i) s) ∧
  (∀ k, k < 4 → ∃ t, G.2.2.2 66 k = .ref t ∧ va_Z (z_stn k).1 (z_stn k).2.1 (z_stn k).2.2 (.ref t) (z_A G.2.2.1) s s.heap ∧ va_T .int t (z_stc.getD k []).length (fun j => .int ((z_stc.getD k []).getD j 0)) (z_A G.2.2.1) s s.heap) ∧
  va_Z (z_stn 4).1 (z_stn 4).2.1 (z_stn 4).2.2 (.int 1) (z_A G.2.2.1) s s.heap ∧
  va_Z (z_stn 5).1 (z_stn 5).2.1 (z_stn 5).2.2 (G.2.2.2 68 0) (z_A G.2.2.1) s s.heap ∧
  (∃ b, G.2.2.2 67 0 = .ref b ∧ b < G.2.2.1 ∧ va_X b L xs s s.heap) ∧
  (∀ c ∈ ([0, 3, 5, 6] : List Nat), ∀ d ∈ ([0, 5, 6] : List Nat), z_sub c d = false → va_Nc (z_cn c) (z_cn d) s) ∧ L < 2 ^ 31
theorem z_Ex.moved {G : z_G} {L : Nat} {xs : Nat → Int32} {s U : State} (h : z_Ex G L xs s) (hW : s.WarmedH U.vm) (hB : G.2.2.1 ≤ s.heap.size) (hq : ∀ a : Nat, a < s.heap.size → ¬ z_A G.2.2.1 a → U.heap[a]? = s.heap[a]?) : z_Ex G L xs U := by
  obtain ⟨h0, ⟨adK, adV, h1, h2, h3⟩, h4, h5, h6, ⟨b, h7, h8, h9⟩, h10, h11⟩ := h
  refine ⟨h0, ⟨adK, adV, h1, (h2.moved hW.alike).kept hq, fun i hi => (h3 i hi).warm hW⟩, fun k hk => ?_, (h5.moved hW.alike).kept hq, (h6.moved hW.alike).kept hq, ⟨b, h7, h8, (h9.moved hW.alike).kept (hq b (Nat.lt_of_lt_of_le h8 hB) (Nat.not_le.mpr h8))⟩, fun c hc d hd hs => (h10 c hc d hd hs).moved hW.alike, h11⟩
  obtain ⟨t, q1, q2, q3⟩ := h4 k hk
  exact ⟨t, q1, (q2.moved hW.alike).kept hq, (q3.moved hW.alike).kept hq⟩
theorem z_wk_warm {w : Cond} (hw : z_wk w = true) {s U : State} (hW : s.WarmedH U.vm) (h : va_Nw w s) : va_Nw w U := by
  unfold z_wk at hw
  split at hw
  · exact word_at hW (Or.inr ⟨_, rfl⟩) h
  · exact va_Nw.warmF hW h
  · exact va_Nw.warmM hW h
  · exact va_Nw.warmD hW h
  · exact va_Nw.warmC hW h
  · exact va_tabs (A := #[]) rfl (rfl : (s.setVm U.vm).vm = U.vm) (by rw [Cond.privateMethod_setVm hW.alike]; exact h)
  · exact va_AO.moved hW.alike h
  · simp only [Bool.and_eq_true] at hw
    exact word_at hW (Or.inl (by rw [hw.1, hw.2]; rfl)) h
theorem z_tb_warm {s U : State} (hW : s.WarmedH U.vm) (h : ∀ w ∈ z_tbl, va_Nw w s) : ∀ w ∈ z_tbl, va_Nw w U := fun w hw => z_wk_warm (List.all_eq_true.mp z_wk_all w hw) hW (h w hw)
/-- the script as the memory tells it -/
def z_scr (L : Nat) (xs : Nat → Int32) (M : z_M) : Prop := M.2.2.1 67 1 0 = Int32.ofNat L ∧ ∀ j, j < L → M.2.2.1 67 0 j = xs j
/-- a state that holds a memory -/
def z_St (G : z_G) (L : Nat) (xs : Nat → Int32) (M : z_M) (U : State) : Prop :=
  va_P G.1 z_cl (z_wl G M) U.heap ∧ U.heap.size = G.2.2.1 + z_nc M ∧ z_kok M ∧ z_scr L xs M ∧ va_K G.1 z_cl (z_tys G) U ∧ (∀ w ∈ z_tbl, va_Nw w U) ∧ z_Ex G L xs U
/-- a heap that holds a memory, behind a frame's start s -/
def z_Rp (G : z_G) (L : Nat) (xs : Nat → Int32) (s : State) (M : z_M) (H : Heap) (locs : List Loc) : Prop :=
  va_P G.1 z_cl (z_wl G M) H ∧ s.heap.size ≤ G.2.2.1 + z_nc M ∧ z_kok M ∧ z_scr L xs M ∧ va_S (z_A G.2.2.1) s.heap H locs
theorem z_St.moved {G : z_G} {L : Nat} {xs : Nat → Int32} {M0 M : z_M} {s U : State} {H : Heap} {locs : List Loc} (h : z_St G L xs M0 s) (hR : z_Rp G L xs s M H locs) (hH : H.size = G.2.2.1 + z_nc M) (hU : U.heap = H) (hW : s.WarmedH U.vm) : z_St G L xs M U := by
  obtain ⟨-, e0, -, -, k1, k2, k3⟩ := h
  obtain ⟨r1, r2, r3, r4, r5⟩ := hR
  subst hU
  exact ⟨r1, hH, r3, r4, k1.moved hW.alike, z_tb_warm hW k2, k3.moved hW (by omega) r5.2.1⟩
/-- the locals -/
def z_Lh (G : z_G) (ls : List (Option z_V)) (nL : Nat) (lsC : Array Slot) : Prop := lsC.size = nL ∧ lv_wf lsC ∧ ∀ i v, ls.getD i none = some v → lsC[i]? = some (.val (z_tv G v))
def z_lv (G : z_G) (ls : List (Option z_V)) : List (Nat × Value) := (List.range ls.length).filterMap (fun i => (ls.getD i none).map (fun v => (i, z_tv G v)))
theorem z_lv_mem {G : z_G} {ls : List (Option z_V)} {q : Nat × Value} : q ∈ z_lv G ls ↔ ∃ v, ls.getD q.1 none = some v ∧ q.2 = z_tv G v := by
  unfold z_lv
  rw [List.mem_filterMap]
  constructor
  · rintro ⟨i, -, hi⟩
    cases hv : ls.getD i none with
    | none => rw [hv] at hi; cases hi
    | some v => rw [hv] at hi; cases hi; exact ⟨v, hv, rfl⟩
  · rintro ⟨v, h1, h2⟩
    refine ⟨q.1, ?_, ?_⟩
    · rw [List.mem_range]
      rcases Nat.lt_or_ge q.1 ls.length with g | g
      · exact g
      · rw [List.getD_eq_getElem?_getD, List.getElem?_eq_none g] at h1
        cases h1
    · rw [h1, Option.map_some, ← h2]
theorem z_Lh.has {G : z_G} {ls : List (Option z_V)} {nL : Nat} {lsC : Array Slot} (h : z_Lh G ls nL lsC) : lv_has lsC nL (z_lv G ls) :=
  ⟨h.1, h.2.1, fun q hq => by
    obtain ⟨v, h1, h2⟩ := z_lv_mem.mp hq
    rw [h2]
    exact h.2.2 _ _ h1⟩
/-- a value is of two slots just when it is a long -/
theorem z_tv_cat {G : z_G} (hx : ∀ t i, G.2.2.2 t i = .null ∨ ∃ a, G.2.2.2 t i = .ref a) (v : z_V) : (z_tv G v).category = 2 ↔ ∃ x, v = z_j x := by
  match v with
  | Sum.inl x => simp [z_tv, Value.category]
  | Sum.inr (Sum.inl x) => simp [z_tv, Value.category]
  | Sum.inr (Sum.inr (Sum.inr ())) => simp [z_tv, Value.category]
  | Sum.inr (Sum.inr (Sum.inl (t, i))) =>
    have h0 : (z_tv G (Sum.inr (Sum.inr (Sum.inl (t, i))))).category = 1 := by
      unfold z_tv
      dsimp only
      split
      · rfl
      · rcases hx t i with h | ⟨a, h⟩ <;> rw [h] <;> rfl
    rw [h0]
    simp
theorem z_getD_set {α : Type} (l : List α) (i j : Nat) (v d : α) : (l.set i v).getD j d = if i = j ∧ i < l.length then v else l.getD j d := by
  rw [List.getD_eq_getElem?_getD, List.getD_eq_getElem?_getD, List.getElem?_set]
  by_cases h : i = j
  · subst h
    by_cases h2 : i < l.length
    · simp [h2]
    · simp [h2]
  · simp [h]
theorem z_lst_pre {ls ls' : List (Option z_V)} {i : Nat} {v : z_V} (h : z_lst ls i v = some ls') : (∀ x1 j1, j1 + 1 = i → ¬ ls.getD j1 none = some (z_j x1)) ∧ ((∀ x1, v ≠ z_j x1) → ls' = ls.set i (some v)) ∧ (∀ x1, v = z_j x1 → ls' = (ls.set i (some v)).set (i + 1) none) := by
  unfold z_lst at h
  split at h
  · cases h
  · next hn1 =>
    refine ⟨fun x1 j1 hj1 hc1 => ?_, fun hv1 => ?_, fun x1 hv1 => ?_⟩
    · apply hn1 x1
      have hb1 : Nat.beq i 0 = false := by
        cases i with
        | zero => omega
        | succ k1 => rfl
      rw [hb1, cond_false, show i - 1 = j1 by omega]
      exact hc1
    · split at h
      · next x2 => exact absurd rfl (hv1 x2)
      · exact (Option.some.inj h).symm
    · subst hv1
      exact (Option.some.inj h).symm
theorem z_lst_has1 {G : z_G} (hx : ∀ t i, G.2.2.2 t i = .null ∨ ∃ a, G.2.2.2 t i = .ref a) {ls ls' : List (Option z_V)} {i nL : Nat} {v : z_V} {lsC : Array Slot} (h : z_lst ls i v = some ls') (hv : ∀ x, v ≠ z_j x)
    (hl : lv_has lsC nL ((i, z_tv G v) :: (z_lv G ls).filter (fun q => !(q.1 == i) && !(q.1 + 1 == i && q.2.category == 2)))) : z_Lh G ls' nL lsC := by
  obtain ⟨h1, h2, -⟩ := z_lst_pre h
  have h3 : ls' = ls.set i (some v) := h2 hv
  subst h3
  refine ⟨hl.1, hl.2.1, fun j1 w1 hj1 => ?_⟩
  rw [z_getD_set] at hj1
  split at hj1
  · next hc1 =>
    have e1 : v = w1 := Option.some.inj hj1
    subst e1
    have e2 : i = j1 := hc1.1
    subst e2
    exact hl.2.2 (i, z_tv G v) List.mem_cons_self
  · next hc1 =>
    refine hl.2.2 (j1, z_tv G w1) (List.mem_cons_of_mem _ (List.mem_filter.mpr ⟨z_lv_mem.mpr ⟨w1, hj1, rfl⟩, ?_⟩))
    have hji : j1 ≠ i := by
      intro e2
      subst e2
      rcases Nat.lt_or_ge j1 ls.length with g1 | g1
      · exact hc1 ⟨rfl, g1⟩
      · rw [List.getD_eq_getElem?_getD, List.getElem?_eq_none g1] at hj1
        cases hj1
    have h4 : ¬ (j1 + 1 = i ∧ (z_tv G w1).category = 2) := by
      intro q1
      obtain ⟨x1, e2⟩ := (z_tv_cat hx w1).mp q1.2
      rw [e2] at hj1
      exact h1 x1 j1 q1.1 hj1
    simp only [Bool.and_eq_true, Bool.not_eq_true', beq_eq_false_iff_ne, ne_eq, Bool.and_eq_false_iff]
    refine ⟨hji, ?_⟩
    by_cases a1 : j1 + 1 = i
    · exact Or.inr (fun a2 => h4 ⟨a1, a2⟩)
    · exact Or.inl a1
theorem z_lst_has2 {G : z_G} (hx : ∀ t i, G.2.2.2 t i = .null ∨ ∃ a, G.2.2.2 t i = .ref a) {ls ls' : List (Option z_V)} {i nL : Nat} {x : Int64} {lsC : Array Slot} (h : z_lst ls i (z_j x) = some ls')
    (hl : lv_has lsC nL ((i, Value.long x) :: (z_lv G ls).filter (fun q => !(q.1 == i) && (!(q.1 == i + 1) && !(q.1 + 1 == i && q.2.category == 2))))) : z_Lh G ls' nL lsC := by
  obtain ⟨h1, -, h2⟩ := z_lst_pre h
  have h3 : ls' = (ls.set i (some (z_j x))).set (i + 1) none := h2 x rfl
  subst h3
  refine ⟨hl.1, hl.2.1, fun j1 w1 hj1 => ?_⟩
  rw [z_getD_set] at hj1
  split at hj1
  · cases hj1
  · next hc0 =>
    rw [z_getD_set] at hj1
    split at hj1
    · next hc1 =>
      have e1 : z_j x = w1 := Option.some.inj hj1
      subst e1
      have e2 : i = j1 := hc1.1
      subst e2
      exact hl.2.2 (i, Value.long x) List.mem_cons_self
    · next hc1 =>
      refine hl.2.2 (j1, z_tv G w1) (List.mem_cons_of_mem _ (List.mem_filter.mpr ⟨z_lv_mem.mpr ⟨w1, hj1, rfl⟩, ?_⟩))
      have hlt : j1 < ls.length := by
        rcases Nat.lt_or_ge j1 ls.length with g1 | g1
        · exact g1
        · rw [List.getD_eq_getElem?_getD, List.getElem?_eq_none g1] at hj1
          cases hj1
      have hji : j1 ≠ i := by
        intro e2
        subst e2
        exact hc1 ⟨rfl, hlt⟩
      have hji2 : j1 ≠ i + 1 := by
        intro e2
        subst e2
        exact hc0 ⟨rfl, by rw [List.length_set]; exact hlt⟩
      have h4 : ¬ (j1 + 1 = i ∧ (z_tv G w1).category = 2) := by
        intro q1
        obtain ⟨x1, e2⟩ := (z_tv_cat hx w1).mp q1.2
        rw [e2] at hj1
        exact h1 x1 j1 q1.1 hj1
      simp only [Bool.and_eq_true, Bool.not_eq_true', beq_eq_false_iff_ne, ne_eq, Bool.and_eq_false_iff]
      refine ⟨hji, hji2, ?_⟩
      by_cases a1 : j1 + 1 = i
      · exact Or.inr (fun a2 => h4 ⟨a1, a2⟩)
      · exact Or.inl a1
