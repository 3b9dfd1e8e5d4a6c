/-! what an entry of the code tables is worth -/
theorem z_lk1_mem {pc : Nat} {l : List (Nat × z_E)} {q : z_E} (h : z_lk1 pc l = some q) : (pc, q) ∈ l := by
  induction l with
  | nil => simp [z_lk1] at h
  | cons x l ih =>
    obtain ⟨k, e⟩ := x
    simp only [z_lk1] at h
    cases hb : Nat.beq k pc with
    | true =>
      rw [hb] at h
      simp only [cond_true, Option.some.injEq] at h
      have := Nat.eq_of_beq_eq_true hb
      subst this; subst h
      exact List.mem_cons_self
    | false =>
      rw [hb] at h
      exact List.mem_cons_of_mem _ (ih h)
theorem z_lk2_mem {pc : Nat} {l : List (Nat × List (Nat × z_E))} {q : z_E} (h : z_lk2 pc l = some q) : ∃ p ∈ l, (pc, q) ∈ p.2 := by
  induction l with
  | nil => simp [z_lk2] at h
  | cons x l ih =>
    obtain ⟨u, r⟩ := x
    simp only [z_lk2] at h
    cases hb : Nat.blt pc u with
    | true =>
      rw [hb] at h
      exact ⟨(u, r), List.mem_cons_self, z_lk1_mem h⟩
    | false =>
      rw [hb] at h
      obtain ⟨p, h1, h2⟩ := ih h
      exact ⟨p, List.mem_cons_of_mem _ h1, h2⟩
theorem z_kl_out {y : Nat} (h : 286 ≤ y) : z_kl y = [] := by
  unfold z_kl
  by_cases h2 : y / 16 < 18
  · have e : y / 16 = 17 := by omega
    rw [e]
    have e2 : y % 16 = 14 ∨ y % 16 = 15 := by omega
    rcases e2 with e2 | e2 <;> rw [e2] <;> rfl
  · rw [List.getD_eq_getElem?_getD (l := [_, _, _, _, _, _, _, _, _, _, _, _, _, _, _, _, _, _]), List.getElem?_eq_none (by simp; omega)]
    rfl
theorem z_cka_all (y : Nat) : z_cka y = true := by
  by_cases h : 286 ≤ y
  · unfold z_cka; rw [z_kl_out h]; rfl
  · by_cases h5 : y = 285
    · subst h5; exact z_ckg17b
    · have e : y = 16 * (y / 16) + y % 16 := by omega
      have hm : y % 16 < 16 := Nat.mod_lt _ (by decide)
      rw [e]
      generalize hg : y / 16 = g at *
      generalize hr : y % 16 = r at *
      have hg18 : g < 18 := by omega
      match g, hg18 with
      | 0, _ => exact z_ckg0 r hm
      | 1, _ => exact z_ckg1 r hm
      | 2, _ => exact z_ckg2 r hm
      | 3, _ => exact z_ckg3 r hm
      | 4, _ => exact z_ckg4 r hm
      | 5, _ => exact z_ckg5 r hm
      | 6, _ => exact z_ckg6 r hm
      | 7, _ => exact z_ckg7 r hm
      | 8, _ => exact z_ckg8 r hm
      | 9, _ => exact z_ckg9 r hm
      | 10, _ => exact z_ckg10 r hm
      | 11, _ => exact z_ckg11 r hm
      | 12, _ => exact z_ckg12 r hm
      | 13, _ => exact z_ckg13 r hm
      | 14, _ => exact z_ckg14 r hm
      | 15, _ => exact z_ckg15 r hm
      | 16, _ => exact z_ckg16 r hm
      | 17, _ => exact z_ckg17 r (by omega)
      | k + 18, h => omega
theorem z_nd_grp {g r : Nat} {ps : List Nat} (hr : r < 16) (h : (List.range 16).flatMap (fun r => z_nda (16 * g + r)) = ps.filterMap (fun i => lw_tbl[i]?)) : ∀ w ∈ z_nda (16 * g + r), w ∈ lw_tbl := by
  intro w hw
  have h1 : w ∈ (List.range 16).flatMap (fun r => z_nda (16 * g + r)) := List.mem_flatMap.mpr ⟨r, List.mem_range.mpr hr, hw⟩
  rw [h] at h1
  obtain ⟨i, -, hi⟩ := List.mem_filterMap.mp h1
  exact List.mem_of_getElem? hi
theorem z_nda_all (y : Nat) : ∀ w ∈ z_nda y, w ∈ lw_tbl := by
  by_cases h : 286 ≤ y
  · intro w hw
    unfold z_nda at hw; rw [z_kl_out h] at hw
    simp at hw
  · have e : y = 16 * (y / 16) + y % 16 := by omega
    have hm : y % 16 < 16 := Nat.mod_lt _ (by decide)
    rw [e]
    generalize hg : y / 16 = g at *
    generalize hr : y % 16 = r at *
    have hg18 : g < 18 := by omega
    match g, hg18 with
    | 0, _ => exact z_nd_grp hm z_ndg0
    | 1, _ => exact z_nd_grp hm z_ndg1
    | 2, _ => exact z_nd_grp hm z_ndg2
    | 3, _ => exact z_nd_grp hm z_ndg3
    | 4, _ => exact z_nd_grp hm z_ndg4
    | 5, _ => exact z_nd_grp hm z_ndg5
    | 6, _ => exact z_nd_grp hm z_ndg6
    | 7, _ => exact z_nd_grp hm z_ndg7
    | 8, _ => exact z_nd_grp hm z_ndg8
    | 9, _ => exact z_nd_grp hm z_ndg9
    | 10, _ => exact z_nd_grp hm z_ndg10
    | 11, _ => exact z_nd_grp hm z_ndg11
    | 12, _ => exact z_nd_grp hm z_ndg12
    | 13, _ => exact z_nd_grp hm z_ndg13
    | 14, _ => exact z_nd_grp hm z_ndg14
    | 15, _ => exact z_nd_grp hm z_ndg15
    | 16, _ => exact z_nd_grp hm z_ndg16
    | 17, _ => exact z_nd_grp hm z_ndg17
    | k + 18, h => omega
/-- the words that hold on, however a launch warms up and the heap grows -/
def z_wx (w : Cond) : Bool := match w with
  | .laysStatic .. | .stringRef .. => false
  | _ => true
def z_tbl : List Cond := lw_tbl.filter z_wx
theorem z_tbl_of {w : Cond} (h : w ∈ lw_tbl) (hx : z_wx w = true) : w ∈ z_tbl := List.mem_filter.mpr ⟨h, hx⟩
def z_wk (w : Cond) : Bool := match w with
  | .arrayClass _ => true
  | .fieldLinkNest .. | .methodLinkNest .. | .declares _ | .castable .. | .privateMethod _ => true
  | .arrayOver (.object _) => true
  | w => w.onTables && w.keeps
theorem z_wk_all : z_tbl.all z_wk = true := by decide +kernel
theorem z_cd_ok {y pc : Nat} {q : z_E} (h : z_cd y pc = some q) : decode (z_mi y).2.1 pc = .ok (q.1, q.2.1) ∧ z_oke y pc q = true ∧ ∀ w ∈ z_need y q, z_wx w = true → w ∈ z_tbl := by
  obtain ⟨p, h1, h2⟩ := z_lk2_mem h
  have h3 := z_cka_all y
  unfold z_cka at h3
  have h4 := List.all_eq_true.mp h3 p h1
  unfold z_ck1 at h4
  have h5 := List.all_eq_true.mp h4 (pc, q) h2
  simp only [Bool.and_eq_true, decide_eq_true_eq] at h5
  refine ⟨h5.1, h5.2, fun w hw hx => z_tbl_of (z_nda_all y w ?_) hx⟩
  exact List.mem_flatMap.mpr ⟨p, h1, List.mem_flatMap.mpr ⟨(pc, q), h2, hw⟩⟩
