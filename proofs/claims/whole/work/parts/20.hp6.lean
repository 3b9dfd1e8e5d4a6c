/-! makings; jumps by null, by tables; instanceof -/
section
variable {G : z_G} {L : Nat} {xs : Nat → Int32} {p : Program} {l : Launch} {e : Env} {R : Room} {s : State} {m : MethodId} {args : Array Value} {below : List Frame} {meth : Method} {c : Code} {Q : State → Prop} {n0 s0 : Nat} {M0 : z_M}
variable {y pc len a b e' f : Nat} {ki : Int32} {kj : Int64} {ls : List (Option z_V)} {st : List z_V} {M : z_M} {c' : z_C}
/-- the heap ends where our cells end -/
theorem z_sized {H : Heap} {locs : List Loc} {slots : Nat} {g : JFrame} (hsz0 : s.heap.size = G.2.2.1 + n0) (hR : z_Rp G L xs s M H locs) (k : H.size = G.2.2.1 + z_nc M → W p l e R s m args below meth c H locs (z_nc M - n0) slots Q g) : W p l e R s m args below meth c H locs (z_nc M - n0) slots Q g := by
  intro T hT X
  refine k ?_ T hT X
  have h1 := X.heapSize
  rw [hT] at h1
  obtain ⟨hP, hsz, -, -, hS⟩ := hR
  have h2 := hS.1
  rcases Nat.eq_or_lt_of_le (show n0 ≤ z_nc M by omega) with h3 | h3
  · omega
  · have h4 := (hP (z_nc M - 1) _ (z_wl_at G (by omega))).lt
    have h5 : G.2.2.1 + (z_nc M - 1) < H.size := h4
    omega
theorem z_push {M' : z_M} {H H1 : Heap} {locs : List Loc} {cell : va_E} (hR : z_Rp G L xs s M H locs) (hH : H.size = G.2.2.1 + z_nc M) (hn : z_nc M' = z_nc M + 1) (hc : ∀ t' i', ¬ (t', i') = z_un (z_nc M) → z_cE G M' t' i' = z_cE G M t' i') (hcell : z_cE G M' (z_un (z_nc M)).1 (z_un (z_nc M)).2 = cell) (hat : va_at G.1 z_cl (G.2.2.1 + z_nc M, cell) H1) (z1 : H1.size = H.size + 1) (o1 : ∀ q, q < H.size → H1[q]? = H[q]?) (hk : z_kok M') (hsc : z_scr L xs M') : z_Rp G L xs s M' H1 locs := by
  obtain ⟨hP, hsz, -, -, hS⟩ := hR
  refine ⟨?_, by omega, hk, hsc, Nat.le_trans hS.1 (by omega), fun x h1 h2 => (o1 x (Nat.lt_of_lt_of_le h1 hS.1)).trans (hS.2.1 x h1 h2), hS.2.2⟩
  rw [z_wl_push G hn hc, hcell]
  refine (hP.kept (fun k x hx => o1 x.1 ((hP k x hx).lt))).app (fun k x hx => ?_)
  have hz : k < 1 := (List.getElem?_eq_some_iff.mp hx).1
  rw [show k = 0 by omega] at hx
  cases hx
  exact hat
theorem z_scr_zr {M : z_M} {P : Bool} {X : z_X} {J : Nat → Nat → Nat → Int64} {t i : Nat} (h : z_scr L xs M) (ht : t < 64) : z_scr L xs (P, X, z_zr M.2.2.1 t i 0, J) := by
  refine ⟨?_, fun k hk => ?_⟩
  · show z_zr M.2.2.1 t i 0 67 1 0 = _
    rw [z_zr_ne (by omega)]; exact h.1
  · show z_zr M.2.2.1 t i 0 67 0 k = _
    rw [z_zr_ne (by omega)]; exact h.2 k hk
/-- a new object's cell holds the first values -/
theorem z_blank {cc : Nat} {H1 : Heap} {q : Nat} {kC : Class} {M' : z_M} {t i : Nat} (hw : ∀ w ∈ z_tbl, w.before args s = true) (hK : va_K G.1 z_cl (z_tys G) s) (hcc : cc < 13) (hkC : s.vm.classes[G.1.1 cc]? = some kC) (e1 : H1[q]? = some (blank (G.1.1 cc) kC)) (hv : ∀ j, j < z_fn cc → defaultValue (z_ty cc j) = z_fv G.2.2.1 M' t i j ((z_ftl.getD cc []).getD j 9)) : va_at G.1 z_cl (q, .inr (cc, z_oc G.2.2.1 M' t i cc)) H1 := by
  have hcl := z_cl_at cc hcc
  have hKn := hK.1 cc _ hcl
  refine ⟨_, hcl, (u_born (z_ty cc) hw (z_lays cc hcc) hKn hkC e1 (z_cls_ty cc hcc)).to ?_⟩
  intro j hj
  show defaultValue (z_ty cc j) = vp_V (z_oc G.2.2.1 M' t i cc) j
  unfold vp_V
  rw [List.getD_eq_getElem?_getD, z_oc_at hj]
  exact hv j hj
/-- what a new object says -/
theorem z_new_spec {M' : z_M} {t i : Nat} (h : z_new M a = some (M', t, i)) (ha : a < 13) (hk : z_kok M) (hsc : z_scr L xs M) : (t, i) = z_un (z_nc M) ∧ z_nc M' = z_nc M + 1 ∧ z_sl M' = z_sl M + z_fn a ∧ (∀ t' i', ¬ (t', i') = z_un (z_nc M) → z_cE G M' t' i' = z_cE G M t' i') ∧ z_cE G M' (z_un (z_nc M)).1 (z_un (z_nc M)).2 = .inr (a, z_oc G.2.2.1 M' t i a) ∧ (∀ j, j < z_fn a → defaultValue (z_ty a j) = z_fv G.2.2.1 M' t i j ((z_ftl.getD a []).getD j 9)) ∧ z_kok M' ∧ z_scr L xs M' ∧ t < 64 := by
  have hlen := z_cls_len a ha
  unfold z_new at h
  dsimp only at h
  cases hM : M.1 with
  | true =>
    rw [hM] at h
    cases hm : (([0, 3, 5, 6] : List Nat).contains a) with
    | false => rw [hm] at h; cases h
    | true =>
      rw [hm] at h
      simp only [cond_true, Option.some.injEq, Prod.mk.injEq] at h
      obtain ⟨e1, e2, e3⟩ := h
      subst e2; subst e3
      have hmem : a ∈ ([0, 3, 5, 6] : List Nat) := by simpa using hm
      obtain ⟨-, c2, c3, -⟩ := z_cls_sh a hmem
      have hnc : z_nc M = 102 + M.2.1.1 := by unfold z_nc; rw [hM]; rfl
      have hun : z_un (z_nc M) = (32, M.2.1.1) := by
        rw [hnc, z_un_out (by omega)]
        congr 1
        omega
      have g1 : ∀ j, M'.2.2.1 32 M.2.1.1 j = 0 := fun j => by rw [← e1]; exact z_zr_at
      have g2 : z_co M' 32 M.2.1.1 = some a := by
        rw [← e1]
        show some (z_u1 M.2.1.2.2.1 M.2.1.1 a M.2.1.1) = some a
        unfold z_u1
        rw [if_pos rfl]
      refine ⟨hun.symm, ?_, ?_, ?_, ?_, ?_, ?_, ?_, Nat.le_of_ble_eq_true rfl⟩
      · rw [hnc, ← e1]
        show 102 + (M.2.1.1 + 1) = _
        omega
      · rw [← e1]
        show M.2.1.2.1 + _ = M.2.1.2.1 + _
        rw [hlen]
      · intro t1 i1 hne
        rw [hun] at hne
        rw [← e1]
        refine z_cE_congr ?_ (fun j => z_zr_ne (fun q => hne (by rw [q.1, q.2]))) (fun j => rfl) (fun j => ?_)
        · unfold z_co
          by_cases h32 : t1 = 32
          · subst h32
            show some (z_u1 M.2.1.2.2.1 M.2.1.1 a i1) = some _
            unfold z_u1
            rw [if_neg (fun q => hne (by rw [q]))]
          · rw [z_beq_f h32]
            rfl
        · unfold z_gr
          rw [hM]
      · rw [hun]
        show z_cE G M' 32 M.2.1.1 = _
        unfold z_cE
        rw [g2]
        rfl
      · intro j hj
        rw [c3]
        have h4 : ∀ j, j < 4 → (z_ftl.getD 3 []).getD j 9 = 0 := by decide
        have h5 := z_cls_tc a ha j hj
        rw [c3] at h5
        have hj4 : j < 4 := by omega
        rw [h4 j hj4] at h5 ⊢
        rcases h5 with ⟨-, h6⟩ | ⟨h6, -⟩ | ⟨h6, -⟩ | ⟨h6, -⟩
        · rw [h6]
          unfold z_fv
          rw [if_neg (by decide), if_neg (by decide), g1]
          rfl
        all_goals cases h6
      · refine ⟨fun _ k1 hk1 => ?_, fun t1 i1 j1 q1 hq1 => ?_⟩
        · rw [← e1] at hk1 ⊢
          have hk1 : k1 < M.2.1.1 + 1 := hk1
          show z_u1 M.2.1.2.2.1 M.2.1.1 a k1 ∈ _
          unfold z_u1
          split
          · exact hmem
          · next hne =>
            have hlt : k1 < M.2.1.1 := by omega
            exact hk.1 hM k1 hlt
        · rw [← e1] at hq1
          exact hk.2 _ _ _ _ hq1
      · rw [← e1]
        exact z_scr_zr hsc (Nat.le_of_ble_eq_true rfl)
  | false =>
    rw [hM] at h
    have hnc : z_nc M = M.2.1.1 := by unfold z_nc; rw [hM]; rfl
    rw [← hnc] at h
    cases hm : decide (z_tc (z_un (z_nc M)).1 = some a) with
    | false => rw [hm] at h; cases h
    | true =>
      rw [hm] at h
      simp only [cond_true, cond_false, Option.some.injEq, Prod.mk.injEq] at h
      obtain ⟨e1, e2, e3⟩ := h
      have htc := of_decide_eq_true hm
      have hlt := z_un_lt (z_nc M)
      obtain ⟨-, hta, h32⟩ := z_tc13 _ hlt _ htc
      have e4 : (t, i) = z_un (z_nc M) := by rw [← e2, ← e3]
      have g1 : ∀ j, M'.2.2.1 t i j = 0 := fun j => by rw [← e1, ← e2, ← e3]; exact z_zr_at
      have g3 : ∀ j, M'.2.2.2 t i j = 0 := fun j => by rw [← e1, ← e2, ← e3]; exact z_zr_at
      have g4 : ∀ j, z_gr M' t i j = none := fun j => by rw [← e1, ← e2, ← e3]; exact z_zr_at
      have g2 : z_co M' (z_un (z_nc M)).1 (z_un (z_nc M)).2 = some a := by unfold z_co; rw [z_beq_f h32]; exact htc
      refine ⟨e4, ?_, ?_, ?_, ?_, ?_, ?_, ?_, by rw [← e2]; exact hlt⟩
      · rw [hnc, ← e1]
        rw [hnc]
        rfl
      · rw [← e1]
        show M.2.1.2.1 + _ = M.2.1.2.1 + _
        rw [hlen]
      · intro t1 i1 hne
        have hne2 : ¬ (t1 = (z_un (z_nc M)).1 ∧ i1 = (z_un (z_nc M)).2) := fun q => hne (by rw [q.1, q.2])
        rw [← e1]
        refine z_cE_congr rfl (fun j => z_zr_ne hne2) (fun j => z_zr_ne hne2) (fun j => ?_)
        unfold z_gr
        rw [hM]
        show z_zr M.2.1.2.2.2 _ _ none t1 i1 j = _
        rw [z_zr_ne hne2]
        rfl
      · unfold z_cE
        rw [hta, g2, e2, e3]
        rfl
      · intro j hj
        have h5 := z_cls_tc a ha j hj
        unfold z_fv
        rcases h5 with ⟨h6, h7⟩ | ⟨h6, h7⟩ | ⟨h6, h7⟩ | ⟨h6, h7, -⟩
        · rw [h6, h7, if_neg (by decide), if_neg (by decide), g1]
          rfl
        · rw [h6, h7, if_pos rfl, g3]
          rfl
        · rw [h6, h7, if_neg (by decide), if_neg (by decide), g1]
          rfl
        · rw [h6, h7, if_neg (by decide), if_pos rfl, g4]
          rfl
      · refine ⟨fun q => ?_, fun t1 i1 j1 q1 hq1 => ?_⟩
        · rw [← e1] at q
          cases q
        · rw [← e1] at hq1
          have hq1 : z_zr M.2.1.2.2.2 _ _ none t1 i1 j1 = some q1 := hq1
          unfold z_zr at hq1
          split at hq1
          · cases hq1
          · exact hk.2 _ _ _ _ hq1
      · rw [← e1]
        exact z_scr_zr hsc hlt
theorem z_s_new {ix : Nat} (F : z_Fx G L xs p s m meth c y M0) (hn0 : n0 = z_nc M0) (hcd : z_cd y pc = some (.new ix, len, (a, b, e', f), ki, kj)) (h : z_step (y, pc, ls, st, M) = Sum.inl c') (hRc : z_nc c'.2.2.2.2 - n0 ≤ R.cells) (hRs : z_sl c'.2.2.2.2 - s0 ≤ R.slots) (hs0 : s0 ≤ z_sl M) (K : z_K G L xs p l e R s m args below meth c Q n0 s0 c') : z_K G L xs p l e R s m args below meth c Q n0 s0 (y, pc, ls, st, M) := by
  obtain ⟨hd, ho, hn⟩ := z_cd_ok hcd
  have hw := F.words args
  obtain ⟨hx, hb, hml, hown, -, -, hnm, hSt⟩ := F
  obtain ⟨-, hsz0, -, -, hK, hwd, hE⟩ := hSt
  rw [← hn0] at hsz0
  simp only [z_step, hcd] at h
  simp only [z_oke, Bool.and_eq_true] at ho
  obtain rfl : len = 3 := Nat.eq_of_beq_eq_true ho.1
  have ha : a < 13 := Nat.le_of_ble_eq_true ho.2
  have hl1 := hw _ (hn (.classLink (z_nm y).cls ix (z_cn a)) (by simp [z_need]) rfl)
  have hl2 := hw _ (hn (.instantiable (z_cn a) (z_fn a)) (by simp [z_need]) rfl)
  have hl3 := hw _ (hn (.initialized (z_cn a)) (by simp [z_need]) rfl)
  have hcl := z_cl_at a ha
  have hKn := hK.1 a _ hcl
  split at h
  · next M' t i hnew =>
    cases h
    intro H locs lsC hR hl
    obtain ⟨hP, hsz, hk, hsc, hS⟩ := id hR
    refine z_sized hsz0 hR fun hH => ?_
    obtain ⟨q1, q2, q3, q4, q5, q6, q7, q8, q9⟩ := z_new_spec (G := G) hnew ha hk hsc
    have hRc : z_nc M' - n0 ≤ R.cells := hRc
    have hRs : z_sl M' - s0 ≤ R.slots := hRs
    have hsz : s.heap.size ≤ G.2.2.1 + z_nc M := hsz
    have hle : n0 ≤ z_nc M := by omega
    refine W.newcK hx hb hown hl1 hl2 hl3 rfl hd (show z_nc M - n0 + 1 ≤ _ by omega) (show z_sl M - s0 + z_fn a ≤ _ by omega) hKn.2.1 rfl fun H1 kC hkC e1 z1 o1 => ?_
    have hR1 : z_Rp G L xs s M' H1 locs := z_push hR hH q2 q4 q5 (by rw [← hH]; exact z_blank hw hK ha hkC e1 q6) z1 o1 q7 q8
    have K1 := K H1 locs lsC hR1 hl
    have ec : z_nc M' - n0 = z_nc M - n0 + 1 := by omega
    have es : z_sl M' - s0 = z_sl M - s0 + z_fn a := by omega
    simp only [List.map_cons] at K1
    rw [ec, es, z_tv_h q9] at K1
    have hoff : z_off t i = z_nc M := by
      have := z_off_un (z_nc M)
      rw [← q1] at this
      exact this
    rw [hoff, ← hH] at K1
    exact K1
  · cases h
/-- what a new row says -/
theorem z_newa_spec {x : Int32} {M' : z_M} {t i : Nat} (h : z_newa M a x = some (M', t, i)) (hk : z_kok M) (hsc : z_scr L xs M) : ∃ n, z_ta t = some (a, n) ∧ (t, i) = z_un (z_nc M) ∧ ¬ x < 0 ∧ x.toNatClampNeg = n ∧ z_nc M' = z_nc M + 1 ∧ z_sl M' = z_sl M + n ∧ (∀ t' i', ¬ (t', i') = z_un (z_nc M) → z_cE G M' t' i' = z_cE G M t' i') ∧ z_kok M' ∧ z_scr L xs M' ∧ t < 64 ∧ (∀ j, M'.2.2.1 t i j = 0) ∧ (∀ j, M'.2.2.2 t i j = 0) ∧ (∀ j, z_gr M' t i j = none) ∧ n < 1000 ∧ a < 5 := by
  unfold z_newa at h
  cases hM : M.1 with
  | true => rw [hM] at h; cases h
  | false =>
    rw [hM] at h
    dsimp only [cond_false] at h
    have hnc : z_nc M = M.2.1.1 := by unfold z_nc; rw [hM]; rfl
    rw [← hnc] at h
    split at h
    · cases h
    · next el n hta =>
      cases hg : (Nat.beq el a && z_in x (n + 1) && Nat.beq x.toNatClampNeg n) with
      | false => rw [hg] at h; cases h
      | true =>
        rw [hg] at h
        cases h
        simp only [Bool.and_eq_true] at hg
        obtain ⟨⟨g1, g2⟩, g3⟩ := hg
        obtain rfl : el = a := Nat.eq_of_beq_eq_true g1
        have g3 := Nat.eq_of_beq_eq_true g3
        have hlt := z_un_lt (z_nc M)
        obtain ⟨k5, k6, -⟩ := z_ta5 _ hlt _ _ hta
        refine ⟨n, hta, rfl, fun q => z_in_of g2 (Or.inl q), g3, by unfold z_nc; rw [hM]; rfl, rfl, fun t' i' hne => ?_, ⟨fun q => (by cases q), fun t' i' j' q hq => ?_⟩, z_scr_zr hsc hlt, hlt, fun j => z_zr_at, fun j => z_zr_at, fun j => z_zr_at, k6, k5⟩
        · have hne2 : ¬ (t' = (z_un (z_nc M)).1 ∧ i' = (z_un (z_nc M)).2) := fun q => hne (by rw [q.1, q.2])
          refine z_cE_congr rfl (fun j => z_zr_ne hne2) (fun j => z_zr_ne hne2) (fun j => ?_)
          unfold z_gr
          rw [hM]
          show z_zr M.2.1.2.2.2 _ _ none t' i' j = _
          rw [z_zr_ne hne2]
          rfl
        · have hq : z_zr M.2.1.2.2.2 _ _ none t' i' j' = some q := hq
          unfold z_zr at hq
          split at hq
          · cases hq
          · exact hk.2 _ _ _ _ hq
end
