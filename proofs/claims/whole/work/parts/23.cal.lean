/-! calls and answers -/
def z_Pc (G : z_G) (L : Nat) (xs : Nat → Int32) (as : List z_V) (M : z_M) : Array Value → State → Prop := va_Pc (as.map (z_tv G)) (z_St G L xs M)
def z_Qc (G : z_G) (L : Nat) (xs : Nat → Int32) (r : Option z_V × z_M) : Array Value → State → Outcome → State → Prop := fun _ st o t => o = .returned (r.1.map (z_tv G)) ∧ z_St G L xs r.2 t ∧ va_F (z_A G.2.2.1) st t
def z_rm (d mc ms : Nat) : Room := { frames := d + 1, cells := mc, slots := ms, locals := 40 * (d + 1) }
theorem z_St.same {G : z_G} {L : Nat} {xs : Nat → Int32} {M : z_M} {U V : State} (h : z_St G L xs M U) (hh : V.heap = U.heap) (hv : V.vm = U.vm) : z_St G L xs M V := by
  obtain ⟨h1, h2, h3, h4, h5, h6, h7⟩ := h
  have hW : U.WarmedH V.vm := by rw [hv]; exact State.WarmedH.refl U
  exact ⟨by rw [hh]; exact h1, by rw [hh]; exact h2, h3, h4, h5.moved hW.alike, z_tb_warm hW h6, h7.moved hW (by omega) (fun a _ _ => by rw [hh])⟩
theorem z_blind {G : z_G} {L : Nat} {xs : Nat → Int32} {as : List z_V} {M : z_M} : FrameBlind (z_Pc G L xs as M) := fun a U g mk h => ⟨h.1, h.2.same rfl rfl⟩
/-- the contract of a method at one start -/
def z_Met (G : z_G) (L : Nat) (xs : Nat → Int32) (l : Launch) (d y : Nat) (as : List z_V) (M : z_M) (r : Option z_V × z_M) : Prop :=
  Met l (z_nm y) [z_cw y] (z_rm d (z_nc r.2 - z_nc M) (z_sl r.2 - z_sl M)) (z_Pc G L xs as M) (z_Qc G L xs r) (z_nc r.2 - z_nc M) (z_sl r.2 - z_sl M) (z_A G.2.2.1)
section
variable {G : z_G} {L : Nat} {xs : Nat → Int32} {p : Program} {l : Launch} {e : Env} {R : Room} {s : State} {m : MethodId} {args : Array Value} {below : List Frame} {meth : Method} {c : Code} {Q : State → Prop} {n0 s0 : Nat} {M0 : z_M}
variable {y pc len a b e' f : Nat} {ki : Int32} {kj : Int64} {ls : List (Option z_V)} {st : List z_V} {M : z_M} {c' : z_C}
/-- behind a call -/
theorem z_after {H : Heap} {locs : List Loc} {lsC : Array Slot} {st0 rest : List Value} {rest0 : List z_V} {as : Array Value} {r : Option z_V × z_M} (hr : va_Run p l e R s m args below meth c H locs (z_nc M - n0) (z_sl M - s0) (z_nc r.2 - z_nc M) (z_sl r.2 - z_sl M) (F0 m pc lsC st0) rest (z_Qc G L xs r as) (z_A G.2.2.1)) (hrest : rest = rest0.map (z_tv G)) (hR : z_Rp G L xs s M H locs) (hl : z_Lh G ls (z_ml y) lsC) (hn0 : n0 ≤ z_nc M) (hs0 : s0 ≤ z_sl M) (hnn : z_nc M ≤ z_nc r.2) (hss : z_sl M ≤ z_sl r.2)
    (K : z_K G L xs p l e R s m args below meth c Q n0 s0 (y, pc + 3, ls, r.1.toList ++ rest0, r.2)) : W p l e R s m args below meth c H locs (z_nc M - n0) (z_sl M - s0) Q (F0 m pc lsC st0) := by
  intro T hT X
  obtain ⟨v, st₀, t, T', L', h0, X', hL, e1, e2, ⟨hv, hSt', hF⟩, stp⟩ := hr T hT X
  cases hv
  obtain ⟨hP, hsz, hk, hsc, hS⟩ := hR
  obtain ⟨p1, p2, p3, p4, -⟩ := hSt'
  obtain ⟨f1, f2⟩ := hF
  rw [h0] at f1 f2
  have hR1 : z_Rp G L xs s r.2 T'.heap (locs ++ L') := by
    refine ⟨by rw [e1]; exact p1, ?_, p3, p4, ?_, ?_, ?_⟩
    · have := hS.1
      omega
    · rw [e1]; exact Nat.le_trans hS.1 f1
    · intro q h1 h2
      rw [e1, f2 q (Nat.lt_of_lt_of_le h1 hS.1) h2]
      exact hS.2.1 q h1 h2
    · intro q hq
      rcases List.mem_append.mp hq with h | h
      · exact hS.2.2 q h
      · exact hL q h
  have K1 := K T'.heap (locs ++ L') lsC hR1 hl
  dsimp only at K1
  have ec : z_nc r.2 - n0 = z_nc M - n0 + (z_nc r.2 - z_nc M) := by omega
  have es : z_sl r.2 - s0 = z_sl M - s0 + (z_sl r.2 - z_sl M) := by omega
  rw [ec, es] at K1
  obtain ⟨t2, a1, b1⟩ := K1 T' rfl X'
  refine ⟨t2, stp t2 ?_, b1⟩
  have hst : (r.1.map (z_tv G)).toList ++ rest = (r.1.toList ++ rest0).map (z_tv G) := by
    rw [hrest, List.map_append]
    congr 1
    cases r.1 <;> rfl
  rw [hst]
  exact a1
theorem z_tk_spec : ∀ (n : Nat) (st acc as rest : List z_V), z_tk n st acc = some (as, rest) → ∃ ar : List z_V, as = ar ++ acc ∧ st = ar.reverse ++ rest ∧ ar.length = n := by
  intro n
  induction n with
  | zero =>
    intro st acc as rest h
    simp only [z_tk, Option.some.injEq, Prod.mk.injEq] at h
    exact ⟨[], by simp [h.1], by simp [h.2], rfl⟩
  | succ n ih =>
    intro st acc as rest h
    cases st with
    | nil => simp [z_tk] at h
    | cons v st =>
      simp only [z_tk] at h
      obtain ⟨ar, q1, q2, q3⟩ := ih st (v :: acc) as rest h
      refine ⟨ar ++ [v], by simp [q1], by simp [q2], by simp [q3]⟩
theorem z_ct_spec (hxx : ∀ t i, G.2.2.2 t i = .null ∨ ∃ a, G.2.2.2 t i = .ref a) : ∀ l : List z_V, ((l.map (z_tv G)).map fun v => v.category).sum = z_ct l := by
  intro l
  induction l with
  | nil => rfl
  | cons v l ih =>
    rw [List.map_cons, List.map_cons, List.sum_cons, ih]
    match v with
    | Sum.inl x => rfl
    | Sum.inr (Sum.inl x) => rfl
    | Sum.inr (Sum.inr x) =>
      show (z_tv G (Sum.inr (Sum.inr x))).category + _ = 1 + z_ct l
      rcases z_tv_ref hxx x with q | ⟨r, q⟩ <;> rw [q] <;> rfl
/-- the words of a called method -/
theorem z_cwn : ∀ y, y < 285 → z_cw y ∈ z_tbl := by
  intro y hy
  refine z_tbl_of ?_ rfl
  have e : y = 16 * (y / 16) + y % 16 := by omega
  have hm : y % 16 < 16 := Nat.mod_lt _ (by decide)
  rw [e]
  generalize hg : y / 16 = g at *
  generalize hr : y % 16 = r at *
  have hg18 : g < 18 := by omega
  match g, hg18 with
  | 0, _ =>
    match r, hm with
    | 0, _ => exact List.mem_of_getElem? z_cwp0
    | 1, _ => exact List.mem_of_getElem? z_cwp1
    | 2, _ => exact List.mem_of_getElem? z_cwp2
    | 3, _ => exact List.mem_of_getElem? z_cwp3
    | 4, _ => exact List.mem_of_getElem? z_cwp4
    | 5, _ => exact List.mem_of_getElem? z_cwp5
    | 6, _ => exact List.mem_of_getElem? z_cwp6
    | 7, _ => exact List.mem_of_getElem? z_cwp7
    | 8, _ => exact List.mem_of_getElem? z_cwp8
    | 9, _ => exact List.mem_of_getElem? z_cwp9
    | 10, _ => exact List.mem_of_getElem? z_cwp10
    | 11, _ => exact List.mem_of_getElem? z_cwp11
    | 12, _ => exact List.mem_of_getElem? z_cwp12
    | 13, _ => exact List.mem_of_getElem? z_cwp13
    | 14, _ => exact List.mem_of_getElem? z_cwp14
    | 15, _ => exact List.mem_of_getElem? z_cwp15
    | k + 16, h => omega
  | 1, _ =>
    match r, hm with
    | 0, _ => exact List.mem_of_getElem? z_cwp16
    | 1, _ => exact List.mem_of_getElem? z_cwp17
    | 2, _ => exact List.mem_of_getElem? z_cwp18
    | 3, _ => exact List.mem_of_getElem? z_cwp19
    | 4, _ => exact List.mem_of_getElem? z_cwp20
    | 5, _ => exact List.mem_of_getElem? z_cwp21
    | 6, _ => exact List.mem_of_getElem? z_cwp22
    | 7, _ => exact List.mem_of_getElem? z_cwp23
    | 8, _ => exact List.mem_of_getElem? z_cwp24
    | 9, _ => exact List.mem_of_getElem? z_cwp25
    | 10, _ => exact List.mem_of_getElem? z_cwp26
    | 11, _ => exact List.mem_of_getElem? z_cwp27
    | 12, _ => exact List.mem_of_getElem? z_cwp28
    | 13, _ => exact List.mem_of_getElem? z_cwp29
    | 14, _ => exact List.mem_of_getElem? z_cwp30
    | 15, _ => exact List.mem_of_getElem? z_cwp31
    | k + 16, h => omega
  | 2, _ =>
    match r, hm with
    | 0, _ => exact List.mem_of_getElem? z_cwp32
    | 1, _ => exact List.mem_of_getElem? z_cwp33
    | 2, _ => exact List.mem_of_getElem? z_cwp34
    | 3, _ => exact List.mem_of_getElem? z_cwp35
    | 4, _ => exact List.mem_of_getElem? z_cwp36
    | 5, _ => exact List.mem_of_getElem? z_cwp37
    | 6, _ => exact List.mem_of_getElem? z_cwp38
    | 7, _ => exact List.mem_of_getElem? z_cwp39
    | 8, _ => exact List.mem_of_getElem? z_cwp40
    | 9, _ => exact List.mem_of_getElem? z_cwp41
    | 10, _ => exact List.mem_of_getElem? z_cwp42
    | 11, _ => exact List.mem_of_getElem? z_cwp43
    | 12, _ => exact List.mem_of_getElem? z_cwp44
    | 13, _ => exact List.mem_of_getElem? z_cwp45
    | 14, _ => exact List.mem_of_getElem? z_cwp46
    | 15, _ => exact List.mem_of_getElem? z_cwp47
    | k + 16, h => omega
  | 3, _ =>
    match r, hm with
    | 0, _ => exact List.mem_of_getElem? z_cwp48
    | 1, _ => exact List.mem_of_getElem? z_cwp49
    | 2, _ => exact List.mem_of_getElem? z_cwp50
    | 3, _ => exact List.mem_of_getElem? z_cwp51
    | 4, _ => exact List.mem_of_getElem? z_cwp52
    | 5, _ => exact List.mem_of_getElem? z_cwp53
    | 6, _ => exact List.mem_of_getElem? z_cwp54
    | 7, _ => exact List.mem_of_getElem? z_cwp55
    | 8, _ => exact List.mem_of_getElem? z_cwp56
    | 9, _ => exact List.mem_of_getElem? z_cwp57
    | 10, _ => exact List.mem_of_getElem? z_cwp58
    | 11, _ => exact List.mem_of_getElem? z_cwp59
    | 12, _ => exact List.mem_of_getElem? z_cwp60
    | 13, _ => exact List.mem_of_getElem? z_cwp61
    | 14, _ => exact List.mem_of_getElem? z_cwp62
    | 15, _ => exact List.mem_of_getElem? z_cwp63
    | k + 16, h => omega
  | 4, _ =>
    match r, hm with
    | 0, _ => exact List.mem_of_getElem? z_cwp64
    | 1, _ => exact List.mem_of_getElem? z_cwp65
    | 2, _ => exact List.mem_of_getElem? z_cwp66
    | 3, _ => exact List.mem_of_getElem? z_cwp67
    | 4, _ => exact List.mem_of_getElem? z_cwp68
    | 5, _ => exact List.mem_of_getElem? z_cwp69
    | 6, _ => exact List.mem_of_getElem? z_cwp70
    | 7, _ => exact List.mem_of_getElem? z_cwp71
    | 8, _ => exact List.mem_of_getElem? z_cwp72
    | 9, _ => exact List.mem_of_getElem? z_cwp73
    | 10, _ => exact List.mem_of_getElem? z_cwp74
    | 11, _ => exact List.mem_of_getElem? z_cwp75
    | 12, _ => exact List.mem_of_getElem? z_cwp76
    | 13, _ => exact List.mem_of_getElem? z_cwp77
    | 14, _ => exact List.mem_of_getElem? z_cwp78
    | 15, _ => exact List.mem_of_getElem? z_cwp79
    | k + 16, h => omega
  | 5, _ =>
    match r, hm with
    | 0, _ => exact List.mem_of_getElem? z_cwp80
    | 1, _ => exact List.mem_of_getElem? z_cwp81
    | 2, _ => exact List.mem_of_getElem? z_cwp82
    | 3, _ => exact List.mem_of_getElem? z_cwp83
    | 4, _ => exact List.mem_of_getElem? z_cwp84
    | 5, _ => exact List.mem_of_getElem? z_cwp85
    | 6, _ => exact List.mem_of_getElem? z_cwp86
    | 7, _ => exact List.mem_of_getElem? z_cwp87
    | 8, _ => exact List.mem_of_getElem? z_cwp88
    | 9, _ => exact List.mem_of_getElem? z_cwp89
    | 10, _ => exact List.mem_of_getElem? z_cwp90
    | 11, _ => exact List.mem_of_getElem? z_cwp91
    | 12, _ => exact List.mem_of_getElem? z_cwp92
    | 13, _ => exact List.mem_of_getElem? z_cwp93
    | 14, _ => exact List.mem_of_getElem? z_cwp94
    | 15, _ => exact List.mem_of_getElem? z_cwp95
    | k + 16, h => omega
  | 6, _ =>
    match r, hm with
    | 0, _ => exact List.mem_of_getElem? z_cwp96
    | 1, _ => exact List.mem_of_getElem? z_cwp97
    | 2, _ => exact List.mem_of_getElem? z_cwp98
    | 3, _ => exact List.mem_of_getElem? z_cwp99
    | 4, _ => exact List.mem_of_getElem? z_cwp100
    | 5, _ => exact List.mem_of_getElem? z_cwp101
    | 6, _ => exact List.mem_of_getElem? z_cwp102
    | 7, _ => exact List.mem_of_getElem? z_cwp103
    | 8, _ => exact List.mem_of_getElem? z_cwp104
    | 9, _ => exact List.mem_of_getElem? z_cwp105
    | 10, _ => exact List.mem_of_getElem? z_cwp106
    | 11, _ => exact List.mem_of_getElem? z_cwp107
    | 12, _ => exact List.mem_of_getElem? z_cwp108
    | 13, _ => exact List.mem_of_getElem? z_cwp109
    | 14, _ => exact List.mem_of_getElem? z_cwp110
    | 15, _ => exact List.mem_of_getElem? z_cwp111
    | k + 16, h => omega
  | 7, _ =>
    match r, hm with
    | 0, _ => exact List.mem_of_getElem? z_cwp112
    | 1, _ => exact List.mem_of_getElem? z_cwp113
    | 2, _ => exact List.mem_of_getElem? z_cwp114
    | 3, _ => exact List.mem_of_getElem? z_cwp115
    | 4, _ => exact List.mem_of_getElem? z_cwp116
    | 5, _ => exact List.mem_of_getElem? z_cwp117
    | 6, _ => exact List.mem_of_getElem? z_cwp118
    | 7, _ => exact List.mem_of_getElem? z_cwp119
    | 8, _ => exact List.mem_of_getElem? z_cwp120
    | 9, _ => exact List.mem_of_getElem? z_cwp121
    | 10, _ => exact List.mem_of_getElem? z_cwp122
    | 11, _ => exact List.mem_of_getElem? z_cwp123
    | 12, _ => exact List.mem_of_getElem? z_cwp124
    | 13, _ => exact List.mem_of_getElem? z_cwp125
    | 14, _ => exact List.mem_of_getElem? z_cwp126
    | 15, _ => exact List.mem_of_getElem? z_cwp127
    | k + 16, h => omega
  | 8, _ =>
    match r, hm with
    | 0, _ => exact List.mem_of_getElem? z_cwp128
    | 1, _ => exact List.mem_of_getElem? z_cwp129
    | 2, _ => exact List.mem_of_getElem? z_cwp130
    | 3, _ => exact List.mem_of_getElem? z_cwp131
    | 4, _ => exact List.mem_of_getElem? z_cwp132
    | 5, _ => exact List.mem_of_getElem? z_cwp133
    | 6, _ => exact List.mem_of_getElem? z_cwp134
    | 7, _ => exact List.mem_of_getElem? z_cwp135
    | 8, _ => exact List.mem_of_getElem? z_cwp136
    | 9, _ => exact List.mem_of_getElem? z_cwp137
    | 10, _ => exact List.mem_of_getElem? z_cwp138
    | 11, _ => exact List.mem_of_getElem? z_cwp139
    | 12, _ => exact List.mem_of_getElem? z_cwp140
    | 13, _ => exact List.mem_of_getElem? z_cwp141
    | 14, _ => exact List.mem_of_getElem? z_cwp142
    | 15, _ => exact List.mem_of_getElem? z_cwp143
    | k + 16, h => omega
  | 9, _ =>
    match r, hm with
    | 0, _ => exact List.mem_of_getElem? z_cwp144
    | 1, _ => exact List.mem_of_getElem? z_cwp145
    | 2, _ => exact List.mem_of_getElem? z_cwp146
    | 3, _ => exact List.mem_of_getElem? z_cwp147
    | 4, _ => exact List.mem_of_getElem? z_cwp148
    | 5, _ => exact List.mem_of_getElem? z_cwp149
    | 6, _ => exact List.mem_of_getElem? z_cwp150
    | 7, _ => exact List.mem_of_getElem? z_cwp151
    | 8, _ => exact List.mem_of_getElem? z_cwp152
    | 9, _ => exact List.mem_of_getElem? z_cwp153
    | 10, _ => exact List.mem_of_getElem? z_cwp154
    | 11, _ => exact List.mem_of_getElem? z_cwp155
    | 12, _ => exact List.mem_of_getElem? z_cwp156
    | 13, _ => exact List.mem_of_getElem? z_cwp157
    | 14, _ => exact List.mem_of_getElem? z_cwp158
    | 15, _ => exact List.mem_of_getElem? z_cwp159
    | k + 16, h => omega
  | 10, _ =>
    match r, hm with
    | 0, _ => exact List.mem_of_getElem? z_cwp160
    | 1, _ => exact List.mem_of_getElem? z_cwp161
    | 2, _ => exact List.mem_of_getElem? z_cwp162
    | 3, _ => exact List.mem_of_getElem? z_cwp163
    | 4, _ => exact List.mem_of_getElem? z_cwp164
    | 5, _ => exact List.mem_of_getElem? z_cwp165
    | 6, _ => exact List.mem_of_getElem? z_cwp166
    | 7, _ => exact List.mem_of_getElem? z_cwp167
    | 8, _ => exact List.mem_of_getElem? z_cwp168
    | 9, _ => exact List.mem_of_getElem? z_cwp169
    | 10, _ => exact List.mem_of_getElem? z_cwp170
    | 11, _ => exact List.mem_of_getElem? z_cwp171
    | 12, _ => exact List.mem_of_getElem? z_cwp172
    | 13, _ => exact List.mem_of_getElem? z_cwp173
    | 14, _ => exact List.mem_of_getElem? z_cwp174
    | 15, _ => exact List.mem_of_getElem? z_cwp175
    | k + 16, h => omega
  | 11, _ =>
    match r, hm with
    | 0, _ => exact List.mem_of_getElem? z_cwp176
    | 1, _ => exact List.mem_of_getElem? z_cwp177
    | 2, _ => exact List.mem_of_getElem? z_cwp178
    | 3, _ => exact List.mem_of_getElem? z_cwp179
    | 4, _ => exact List.mem_of_getElem? z_cwp180
    | 5, _ => exact List.mem_of_getElem? z_cwp181
    | 6, _ => exact List.mem_of_getElem? z_cwp182
    | 7, _ => exact List.mem_of_getElem? z_cwp183
    | 8, _ => exact List.mem_of_getElem? z_cwp184
    | 9, _ => exact List.mem_of_getElem? z_cwp185
    | 10, _ => exact List.mem_of_getElem? z_cwp186
    | 11, _ => exact List.mem_of_getElem? z_cwp187
    | 12, _ => exact List.mem_of_getElem? z_cwp188
    | 13, _ => exact List.mem_of_getElem? z_cwp189
    | 14, _ => exact List.mem_of_getElem? z_cwp190
    | 15, _ => exact List.mem_of_getElem? z_cwp191
    | k + 16, h => omega
  | 12, _ =>
    match r, hm with
    | 0, _ => exact List.mem_of_getElem? z_cwp192
    | 1, _ => exact List.mem_of_getElem? z_cwp193
    | 2, _ => exact List.mem_of_getElem? z_cwp194
    | 3, _ => exact List.mem_of_getElem? z_cwp195
    | 4, _ => exact List.mem_of_getElem? z_cwp196
    | 5, _ => exact List.mem_of_getElem? z_cwp197
    | 6, _ => exact List.mem_of_getElem? z_cwp198
    | 7, _ => exact List.mem_of_getElem? z_cwp199
    | 8, _ => exact List.mem_of_getElem? z_cwp200
    | 9, _ => exact List.mem_of_getElem? z_cwp201
    | 10, _ => exact List.mem_of_getElem? z_cwp202
    | 11, _ => exact List.mem_of_getElem? z_cwp203
    | 12, _ => exact List.mem_of_getElem? z_cwp204
    | 13, _ => exact List.mem_of_getElem? z_cwp205
    | 14, _ => exact List.mem_of_getElem? z_cwp206
    | 15, _ => exact List.mem_of_getElem? z_cwp207
    | k + 16, h => omega
  | 13, _ =>
    match r, hm with
    | 0, _ => exact List.mem_of_getElem? z_cwp208
    | 1, _ => exact List.mem_of_getElem? z_cwp209
    | 2, _ => exact List.mem_of_getElem? z_cwp210
    | 3, _ => exact List.mem_of_getElem? z_cwp211
    | 4, _ => exact List.mem_of_getElem? z_cwp212
    | 5, _ => exact List.mem_of_getElem? z_cwp213
    | 6, _ => exact List.mem_of_getElem? z_cwp214
    | 7, _ => exact List.mem_of_getElem? z_cwp215
    | 8, _ => exact List.mem_of_getElem? z_cwp216
    | 9, _ => exact List.mem_of_getElem? z_cwp217
    | 10, _ => exact List.mem_of_getElem? z_cwp218
    | 11, _ => exact List.mem_of_getElem? z_cwp219
    | 12, _ => exact List.mem_of_getElem? z_cwp220
    | 13, _ => exact List.mem_of_getElem? z_cwp221
    | 14, _ => exact List.mem_of_getElem? z_cwp222
    | 15, _ => exact List.mem_of_getElem? z_cwp223
    | k + 16, h => omega
  | 14, _ =>
    match r, hm with
    | 0, _ => exact List.mem_of_getElem? z_cwp224
    | 1, _ => exact List.mem_of_getElem? z_cwp225
    | 2, _ => exact List.mem_of_getElem? z_cwp226
    | 3, _ => exact List.mem_of_getElem? z_cwp227
    | 4, _ => exact List.mem_of_getElem? z_cwp228
    | 5, _ => exact List.mem_of_getElem? z_cwp229
    | 6, _ => exact List.mem_of_getElem? z_cwp230
    | 7, _ => exact List.mem_of_getElem? z_cwp231
    | 8, _ => exact List.mem_of_getElem? z_cwp232
    | 9, _ => exact List.mem_of_getElem? z_cwp233
    | 10, _ => exact List.mem_of_getElem? z_cwp234
    | 11, _ => exact List.mem_of_getElem? z_cwp235
    | 12, _ => exact List.mem_of_getElem? z_cwp236
    | 13, _ => exact List.mem_of_getElem? z_cwp237
    | 14, _ => exact List.mem_of_getElem? z_cwp238
    | 15, _ => exact List.mem_of_getElem? z_cwp239
    | k + 16, h => omega
  | 15, _ =>
    match r, hm with
    | 0, _ => exact List.mem_of_getElem? z_cwp240
    | 1, _ => exact List.mem_of_getElem? z_cwp241
    | 2, _ => exact List.mem_of_getElem? z_cwp242
    | 3, _ => exact List.mem_of_getElem? z_cwp243
    | 4, _ => exact List.mem_of_getElem? z_cwp244
    | 5, _ => exact List.mem_of_getElem? z_cwp245
    | 6, _ => exact List.mem_of_getElem? z_cwp246
    | 7, _ => exact List.mem_of_getElem? z_cwp247
    | 8, _ => exact List.mem_of_getElem? z_cwp248
    | 9, _ => exact List.mem_of_getElem? z_cwp249
    | 10, _ => exact List.mem_of_getElem? z_cwp250
    | 11, _ => exact List.mem_of_getElem? z_cwp251
    | 12, _ => exact List.mem_of_getElem? z_cwp252
    | 13, _ => exact List.mem_of_getElem? z_cwp253
    | 14, _ => exact List.mem_of_getElem? z_cwp254
    | 15, _ => exact List.mem_of_getElem? z_cwp255
    | k + 16, h => omega
  | 16, _ =>
    match r, hm with
    | 0, _ => exact List.mem_of_getElem? z_cwp256
    | 1, _ => exact List.mem_of_getElem? z_cwp257
    | 2, _ => exact List.mem_of_getElem? z_cwp258
    | 3, _ => exact List.mem_of_getElem? z_cwp259
    | 4, _ => exact List.mem_of_getElem? z_cwp260
    | 5, _ => exact List.mem_of_getElem? z_cwp261
    | 6, _ => exact List.mem_of_getElem? z_cwp262
    | 7, _ => exact List.mem_of_getElem? z_cwp263
    | 8, _ => exact List.mem_of_getElem? z_cwp264
    | 9, _ => exact List.mem_of_getElem? z_cwp265
    | 10, _ => exact List.mem_of_getElem? z_cwp266
    | 11, _ => exact List.mem_of_getElem? z_cwp267
    | 12, _ => exact List.mem_of_getElem? z_cwp268
    | 13, _ => exact List.mem_of_getElem? z_cwp269
    | 14, _ => exact List.mem_of_getElem? z_cwp270
    | 15, _ => exact List.mem_of_getElem? z_cwp271
    | k + 16, h => omega
  | 17, _ =>
    match r, hm with
    | 0, _ => exact List.mem_of_getElem? z_cwp272
    | 1, _ => exact List.mem_of_getElem? z_cwp273
    | 2, _ => exact List.mem_of_getElem? z_cwp274
    | 3, _ => exact List.mem_of_getElem? z_cwp275
    | 4, _ => exact List.mem_of_getElem? z_cwp276
    | 5, _ => exact List.mem_of_getElem? z_cwp277
    | 6, _ => exact List.mem_of_getElem? z_cwp278
    | 7, _ => exact List.mem_of_getElem? z_cwp279
    | 8, _ => exact List.mem_of_getElem? z_cwp280
    | 9, _ => exact List.mem_of_getElem? z_cwp281
    | 10, _ => exact List.mem_of_getElem? z_cwp282
    | 11, _ => exact List.mem_of_getElem? z_cwp283
    | 12, _ => exact List.mem_of_getElem? z_cwp284
    | 13, _ => omega
    | 14, _ => omega
    | 15, _ => omega
    | k + 16, h => omega
  | k + 18, h => omega
theorem z_ml_mi1 : ∀ y, y < 285 → z_ml y = (z_mi y).2.2.1 := by decide +kernel
theorem z_ml_mi2 : ∀ y, y < 285 → (z_mi y).2.2.1 ≤ 11 := by decide +kernel
theorem z_ml_mi3 : ∀ y, y < 285 → z_pl y = true → plainName (z_nm y).cls = true := by decide +kernel
theorem z_ml_mi : ∀ y, y < 285 → z_ml y = (z_mi y).2.2.1 ∧ (z_mi y).2.2.1 ≤ 11 := fun y hy => ⟨z_ml_mi1 y hy, z_ml_mi2 y hy⟩
theorem z_yc_cn : ∀ y, y < 285 → z_yc y < 13 → z_cn (z_yc y) = (z_nm y).cls := by decide +kernel
theorem z_yc_le : ∀ y, y < 285 → z_yc y ≤ 13 := by decide +kernel
theorem z_strm_cn : ∀ y, y ∈ z_strm → (z_nm y).cls = "java/lang/String" := by decide +kernel
theorem z_vt_all : ∀ v, v < 5 → ∀ c1, c1 < 13 → (match z_vt v c1 with | none => true | some y1 => decide (y1 < 285 ∧ c1 ∈ ([3, 6, 5, 0] : List Nat))) = true := by decide +kernel
theorem z_vo_all : ∀ v, v < 5 → z_vo v < 285 ∧ (z_nm (z_vo v)).name = (z_vx v).name ∧ (z_nm (z_vo v)).desc = (z_vx v).desc := by decide +kernel
theorem z_pn_spec {mn : MethodName} {n : Nat} (h : z_pn mn n = true) : mn.cls ≠ "java/lang/invoke/MethodHandle" ∧ mn.cls ≠ "java/lang/invoke/VarHandle" ∧ ∀ sig, parseMethodDescriptor mn.desc = some sig → n = sig.parameters.length := by
  have h1 := of_decide_eq_true h
  refine ⟨h1.1, h1.2.1, fun sig hs => ?_⟩
  have h2 := h1.2.2
  rw [hs] at h2
  exact (Option.some.inj h2).symm
/-- a callee's own word holds on -/
theorem z_cw_ws {y1 : Nat} (hw : ∀ w ∈ z_tbl, w.before args s = true) (hy : y1 < 285) : ∀ w ∈ [z_cw y1], ∀ (a' : Array Value) (U : State), s.WarmedH U.vm → w.before a' U = true := by
  intro w1 hw1 a1 U1 hW1
  rw [List.mem_singleton.mp hw1]
  exact word_at hW1 (Or.inl rfl) (hw _ (z_cwn y1 hy))
/-- the room that a callee asks for is there -/
theorem z_room {d1 y1 mc ms : Nat} (hy : y1 < 285) (hRf : d1 + 2 ≤ R.frames) (hRl : 40 * (d1 + 2) ≤ R.locals) : (z_rm d1 mc ms).frames + 1 ≤ R.frames ∧ 8 + ((z_mi y1).2.2.1 + 11) + (z_rm d1 mc ms).locals ≤ R.locals := by
  obtain ⟨-, h1⟩ := z_ml_mi y1 hy
  refine ⟨by show d1 + 1 + 1 ≤ _; omega, ?_⟩
  show 8 + ((z_mi y1).2.2.1 + 11) + 40 * (d1 + 1) ≤ _
  omega
theorem z_call_static {ix d1 y1 : Nat} {as1 : List z_V} {c1 : z_C} {r1 : Option z_V × z_M} (F : z_Fx G L xs p s m meth c y M0) (hn0 : n0 = z_nc M0) (hcd : z_cd y pc = some (.invokestatic ix, len, (a, b, e', f), ki, kj)) (h : z_step (y, pc, ls, st, M) = z_ca y1 as1 c1)
    (hM : z_Met G L xs l d1 y1 as1 M r1) (hRf : d1 + 2 ≤ R.frames) (hRl : 40 * (d1 + 2) ≤ R.locals) (hRc : z_nc r1.2 - n0 ≤ R.cells) (hRs : z_sl r1.2 - s0 ≤ R.slots) (hs0 : s0 ≤ z_sl M) (hnn : z_nc M ≤ z_nc r1.2) (hss : z_sl M ≤ z_sl r1.2)
    (K : z_K G L xs p l e R s m args below meth c Q n0 s0 (c1.1, c1.2.1, c1.2.2.1, r1.1.toList ++ c1.2.2.2.1, r1.2)) : z_K G L xs p l e R s m args below meth c Q n0 s0 (y, pc, ls, st, M) := by
  obtain ⟨hd, ho, hn⟩ := z_cd_ok hcd
  have hw := F.words args
  have hxx := F.ex
  obtain ⟨hx, hb, hml, hown, -, -, hnm, hSt⟩ := F
  have hsz0 := hSt.2.1
  rw [← hn0] at hsz0
  simp only [z_step, hcd, z_inv] at h
  simp only [z_oke, Bool.and_eq_true] at ho
  obtain ⟨⟨⟨ho1, ho2⟩, ho3⟩, ho4⟩ := ho
  have ha := Nat.le_of_ble_eq_true ho3
  have hb2 : b < 2 := Nat.le_of_ble_eq_true ho2
  split at h
  · cases h
  · next as2 r2 htk =>
    rw [ho2] at h
    simp only [cond_true] at h
    cases h8 : Nat.blt 8 (z_ct r2) with
    | true => rw [h8] at h; cases h
    | false =>
      rw [h8] at h
      simp only [cond_false] at h
      have h : z_ca a as2 (y, pc + 3, ls, r2, M) = z_ca y1 as1 c1 := by
        split at h
        · simp only [Bool.cond_eq_ite] at h
          split at h <;> cases h
        · exact h
      simp only [Sum.inr.injEq, Sum.inl.injEq, Prod.mk.injEq] at h
      obtain ⟨e1, e2, e3⟩ := h
      subst e1; subst e2; subst e3
      obtain ⟨ar, q1, q2, q3⟩ := z_tk_spec _ _ _ _ _ htk
      rw [List.append_nil] at q1
      subst q1
      have h8' : z_ct r2 ≤ 8 := by
        rcases Nat.lt_or_ge 8 (z_ct r2) with g1 | g1
        · have : Nat.blt 8 (z_ct r2) = true := Nat.ble_eq_true_of_le g1
          rw [this] at h8; cases h8
        · exact g1
      intro H locs lsC hR hl
      have hR : z_Rp G L xs s M H locs := hR
      show W p l e R s m args below meth c H locs (z_nc M - n0) (z_sl M - s0) Q _
      refine z_sized hsz0 hR fun hH => ?_
      have hle : n0 ≤ z_nc M := by have := hR.2.1; omega
      obtain ⟨pn1, pn2, pn3⟩ := z_pn_spec ho4
      have hroom := z_room (R := R) (mc := z_nc r1.2 - z_nc M) (ms := z_sl r1.2 - z_sl M) ha hRf hRl
      have hini := hw _ (hn (.initialized (z_nm a).cls) (by simp [z_need, show ¬ b = 9 by omega, show ¬ b = 6 by omega, show ¬ b = 7 by omega]) rfl)
      have hsta := hw _ (hn (.static (z_nm a)) (by simp [z_need, show ¬ b = 9 by omega, show ¬ b = 6 by omega, show ¬ b = 7 by omega, hb2]) rfl)
      have hpre : PreS s H (z_Pc G L xs as2 M) (as2.map (z_tv G)) := ⟨z_blind, fun U hU hW => ⟨rfl, hSt.moved hR hH hU hW⟩⟩
      have hstk : (F0 m pc lsC (List.map (z_tv G) st)).stack = (as2.map (z_tv G)).reverse ++ r2.map (z_tv G) := by
        show List.map (z_tv G) st = _
        rw [q2, List.map_append, List.map_reverse]
      have hcat : 2 * (F0 m pc lsC (List.map (z_tv G) st)).monitorRoom + ((r2.map (z_tv G)).map fun v => v.category).sum ≤ 8 := lv_room (by rw [z_ct_spec hxx]; exact h8')
      have hlen1 : (as2.map (z_tv G)).length = e' := by rw [List.length_map]; exact q3
      obtain rfl : len = 3 := Nat.eq_of_beq_eq_true ho1
      by_cases hb1 : b = 1
      · have hlk := hw _ (hn (.methodLinkNest (z_nm y).cls ix (z_nm a) "ShareNets") (by simp [z_need, hb1]) rfl)
        exact z_after (rest0 := r2) (va_runSN (bytes := (z_mi a).2.1) (maxL := (z_mi a).2.2.1) (ret := (z_mi a).2.2.2) ⟨hx, hb, hml, hown, hw⟩ hM ⟨⟨⟨rfl, rfl, hroom.1, hroom.2, z_cw_ws hw ha, List.mem_singleton.mpr rfl⟩, hw _ (z_cwn a ha), hini, ⟨pn1, pn2⟩, pn3, hlk⟩, hsta, trivial⟩ hpre rfl hlen1 hl.1 hstk hcat hd ⟨by omega, by omega⟩) rfl hR hl hle hs0 hnn hss K
      · have hlk := hw _ (hn (.methodLink (z_nm y).cls ix (z_nm a)) (by simp [z_need, show ¬ b = 9 by omega, show ¬ b = 6 by omega, show ¬ b = 7 by omega, hb1, show ¬ b = 3 by omega]) rfl)
        exact z_after (rest0 := r2) (va_runS (bytes := (z_mi a).2.1) (maxL := (z_mi a).2.2.1) (ret := (z_mi a).2.2.2) ⟨hx, hb, hml, hown, hw⟩ hM ⟨⟨rfl, rfl, hroom.1, hroom.2, z_cw_ws hw ha, List.mem_singleton.mpr rfl, hw _ (z_cwn a ha), hini, ⟨pn1, pn2⟩, pn3, hlk⟩, hsta⟩ hpre rfl hlen1 hl.1 hstk hcat hd ⟨by omega, by omega⟩) rfl hR hl hle hs0 hnn hss K
/-- Math.max, Math.abs -/
theorem z_s_math {ix : Nat} (F : z_Fx G L xs p s m meth c y M0) (hcd : z_cd y pc = some (.invokestatic ix, len, (a, b, e', f), ki, kj)) (h : z_step (y, pc, ls, st, M) = Sum.inl c') (hRf : 1 ≤ R.frames) (hRl : 40 ≤ R.locals) (hRc : z_nc c'.2.2.2.2 - n0 ≤ R.cells) (hRs : z_sl c'.2.2.2.2 - s0 ≤ R.slots) (K : z_K G L xs p l e R s m args below meth c Q n0 s0 c') : z_K G L xs p l e R s m args below meth c Q n0 s0 (y, pc, ls, st, M) := by
  obtain ⟨hd, ho, hn⟩ := z_cd_ok hcd
  have hw := F.words args
  have hxx := F.ex
  obtain ⟨hx, hb, hml, hown, -, -, hnm, hSt⟩ := F
  simp only [z_step, hcd, z_inv] at h
  simp only [z_oke, Bool.and_eq_true] at ho
  obtain ⟨⟨⟨ho1, ho2⟩, ho3⟩, ho4⟩ := ho
  obtain rfl : len = 3 := Nat.eq_of_beq_eq_true ho1
  split at h
  · cases h
  · next as2 r2 htk =>
    rw [ho2] at h
    simp only [cond_true] at h
    cases h8 : Nat.blt 8 (z_ct r2) with
    | true => rw [h8] at h; cases h
    | false =>
      rw [h8] at h
      simp only [cond_false] at h
      have h8' : z_ct r2 ≤ 8 := by
        rcases Nat.lt_or_ge 8 (z_ct r2) with g1 | g1
        · have : Nat.blt 8 (z_ct r2) = true := Nat.ble_eq_true_of_le g1
          rw [this] at h8; cases h8
        · exact g1
      obtain ⟨ar, q1, q2, q3⟩ := z_tk_spec _ _ _ _ _ htk
      rw [List.append_nil] at q1
      subst q1
      split at h
      · next v1 hma =>
        cases hb0 : Nat.beq b 0 with
        | false => rw [hb0] at h; cases h
        | true =>
          rw [hb0] at h
          obtain rfl : b = 0 := Nat.eq_of_beq_eq_true hb0
          simp only [cond_true, Sum.inl.injEq] at h
          subst h
          have hini := hw _ (hn (.initialized (z_nm a).cls) (by simp [z_need]) rfl)
          have hsta := hw _ (hn (.static (z_nm a)) (by simp [z_need]) rfl)
          have hlk := hw _ (hn (.methodLink (z_nm y).cls ix (z_nm a)) (by simp [z_need]) rfl)
          have hco := hw _ (z_cwn a (Nat.le_of_ble_eq_true ho3))
          have hct := z_ct_spec hxx r2
          intro H locs lsC hR hl
          have K1 := K H locs lsC hR hl
          have hRc : z_nc M - n0 ≤ R.cells := hRc
          have hRs : z_sl M - s0 ≤ R.slots := hRs
          show W p l e R s m args below meth c H locs (z_nc M - n0) (z_sl M - s0) Q _
          unfold z_math at hma
          by_cases h77 : a = 277
          · subst h77
            simp only [show Nat.beq 277 277 = true from rfl, cond_true] at hma
            split at hma
            · next x1 w1 =>
              have e5 : v1 = z_i (if x1 < w1 then w1 else x1) := (Option.some.inj hma).symm
              subst e5
              have e6 : st = Sum.inl w1 :: Sum.inl x1 :: r2 := q2
              subst e6
              exact va_mmax hx hb (hml.trans hl.1.symm) hown hlk hsta hini hco hRf (by rw [hct]; omega) hRc hRs hd K1
            · cases hma
          · rw [z_beq_f h77] at hma
            by_cases h76 : a = 276
            · subst h76
              simp only [show Nat.beq 276 276 = true from rfl, cond_true, cond_false] at hma
              split at hma
              · next x1 =>
                have e5 : v1 = z_j (if 0 < x1 then x1 else -x1) := (Option.some.inj hma).symm
                subst e5
                have e6 : st = Sum.inr (Sum.inl x1) :: r2 := q2
                subst e6
                exact va_mabs_long hx hb (hml.trans hl.1.symm) hown hlk hsta hini hco hRf (by rw [hct]; omega) hRc hRs hd K1
              · cases hma
            · rw [z_beq_f h76] at hma
              cases hma
      · cases h
end
