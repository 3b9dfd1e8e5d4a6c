/-! read: the call -/
def z_tY (a b c : Nat) : Bool := z_tV a b c || (Nat.beq a 33 && (Nat.beq c 21 || Nat.beq c 14))
theorem z_tV_Y {I I' : Nat → Nat → Nat → Int32} (h : z_fr z_tV I I') : z_fr z_tY I I' := z_fr_mn h (fun a b c q => by unfold z_tY; rw [q]; rfl)
theorem z_tY_X {k : Nat} {I I' : Nat → Nat → Nat → Int32} (h : z_fr z_tY I I') : z_fr (z_tX k) I I' := z_fr_mn h (fun a b c q => by
  unfold z_tY at q
  unfold z_tX
  rw [q]
  rfl)
theorem z_44_V {I I' : Nat → Nat → Nat → Int32} (h : z_fr (fun a _ _ => Nat.beq a 44) I I') : z_fr z_tV I I' := z_fr_mn h (fun a b c q => by unfold z_tV; rw [q, Bool.or_true])
section
variable {d : Nat} {X : z_X} {I : Nat → Nat → Nat → Int32} {J : Nat → Nat → Nat → Int64}
theorem z_p183 {B : Nat → Int32} {k a : Nat} (ht : z_kt B k) (h2 : z_kk2 I B k) (ha : a < 4) : ∃ (I' : Nat → Nat → Nat → Int32) (J' : Nat → Nat → Nat → Int64) (v : Int32), z_ev (d + 6) (z_en 183 [z_r 33 0, z_i (Int32.ofNat a)] (true, X, I, J)) (some (z_i v), (true, X, I', J')) ∧ z_jn J J' ∧ I' 33 0 14 = 0 ∧ ((∃ x, z_kx B k = Sum.inl x ∧ v = (-100 : Int32) - Int32.ofNat x ∧ z_fr z_tY I I') ∨ (∃ (n : Nat) (R : Nat → Nat → Prop) (m : Nat → Nat), z_kx B k = Sum.inr (n, R) ∧ n ≤ 10 ∧ v = z_sm (fun p => I' 35 0 (10 * a + p)) n / 2 ∧ z_fr (z_tX a) I I' ∧ I' 34 0 a = Int32.ofNat n ∧ (∀ p, p < 10 → I' 35 0 (10 * a + p) = Int32.ofNat (m p)) ∧ (∀ p, p < 10 → m p < 1024) ∧ (∀ p q, p < 10 → ((m p).testBit q = true ↔ R p q)) ∧ z_kRp n R)) := by
  have hk := ht.1
  have hb3 : z_bw (Int32.ofNat a) 0 3 = true := z_bw_t.mpr ⟨z_on0 a (by omega), (z_ole (b := 3) (by omega) (by decide)).mpr (by omega)⟩
  have fb : ∀ {P : Prop}, z_bw (Int32.ofNat a) 0 3 = false → P := fun q => by rw [hb3] at q; cases q
  have fault76 : ∀ x (x2 : Int32) I4 J4, I4 33 0 20 = 0 → I4 33 0 16 = Int32.ofNat x → z_ev (d + 6) (183, 76, [some (z_r 33 0), some (z_i (Int32.ofNat a)), some (z_i x2)], [], (true, X, I4, J4)) (some (z_i ((-100 : Int32) - Int32.ofNat x)), (true, X, z_up I4 33 0 14 0, J4)) := fun x x2 I4 J4 h20 h16 => z_q183_76 _ _ ⟨fun _ => by rw [h16], fun q => absurd h20 q⟩
  have fault : ∀ x I4 J4, I4 33 0 20 = 0 → I4 33 0 16 = Int32.ofNat x → ∃ I', z_ev (d + 6) (183, 57, [some (z_r 33 0), some (z_i (Int32.ofNat a)), some (z_i 0)], [], (true, X, I4, J4)) (some (z_i ((-100 : Int32) - Int32.ofNat x)), (true, X, I', J4)) ∧ I' 33 0 14 = 0 ∧ z_fr z_tY I4 I' := fun x I4 J4 h20 h16 => by
    obtain ⟨I5, c1, -, c3⟩ := z_l57 (d := d) (X := X) (I := I4) (J := J4) (x1 := Int32.ofNat a) 10 0 (by omega) I4 (fun p hp => absurd hp (Nat.not_lt_zero p)) z_fr_rf
    exact ⟨_, c1 _ (fault76 x _ I5 J4 (by rw [c3 33 0 20 rfl]; exact h20) (by rw [c3 33 0 16 rfl]; exact h16)), z_up_e, z_fr_up (z_tV_Y (z_44_V c3)) rfl⟩
  have kf0 : z_kk2 (z_up I 33 0 17 (0 : Int32)) B k := ⟨by rw [z_up_j (by decide)]; exact h2.1, fun e he => h2.2 e he⟩
  obtain ⟨I3, J3, p176, hT0, f3, j3⟩ := z_p176 (d := d + 3) (X := X) (I := z_up I 33 0 17 (0 : Int32)) (J := J) ht kf0 (Nat.zero_le k) z_up_e
  have g3 : z_fr z_tV I I3 := z_fr_tr (z_fr_up z_fr_rf rfl) (z_tW_V (z_t20_W (z_t33_20 f3)))
  have p177 := z_p177 (d := d + 5) (X := X) (w1 := 0) ht (by decide) hT0
  cases e0 : z_km B (z_ks B 0) (z_ke B k (z_ks B 0)) 0 with
  | false =>
    rw [e0] at p177
    have ev : z_kx B k = Sum.inl (z_ks B 0) := by unfold z_kx; rw [if_pos e0]
    have h20 : (z_up I3 33 0 20 (z_c false)) 33 0 20 = 0 := z_up_e
    have p178 := z_p178z (d := d + 2) (X := X) (J := J3) (lo := 1) (hi := 10) h20
    obtain ⟨I4, hI4⟩ : ∃ I4, I4 = z_up (z_up I3 33 0 20 (z_c false)) 33 0 21 ((z_up I3 33 0 20 (z_c false)) 33 0 19) := ⟨_, rfl⟩
    have h20' : I4 33 0 20 = 0 := by rw [hI4, z_up_j (by decide)]; exact h20
    have p179 := z_p179z (d := d + 2) (X := X) (J := J3) h20'
    obtain ⟨I', c1, c2, c3⟩ := fault (z_ks B 0) I4 J3 h20' (by rw [hI4, z_up_j (by decide), z_up_j (by decide)]; exact hT0.1)
    refine ⟨I', J3, _, z_q183_e _ ⟨fun _ => ⟨_, _, _, p176, false, _, _, _, p177, fun _ => ⟨_, _, _, _, p178, _, _, _, by rw [← hI4]; exact p179, c1⟩, fun q => absurd rfl q⟩, fun q => fb q⟩, j3, c2, Or.inl ⟨z_ks B 0, ev, rfl, z_fr_tr ?_ c3⟩⟩
    rw [hI4]
    exact z_fr_up (z_fr_up (z_tV_Y g3) rfl) rfl
  | true =>
    rw [e0] at p177
    have n0 : ¬ z_km B (z_ks B 0) (z_ke B k (z_ks B 0)) 0 = false := by rw [e0]; decide
    obtain ⟨a1, ha1⟩ : ∃ a1, a1 = z_ke B k (z_ks B 0) := ⟨_, rfl⟩
    have hen : a1 ≤ k := by rw [ha1]; exact z_ke_le ht (z_ks_le ht (Nat.zero_le k))
    obtain ⟨Ig, hIg⟩ : ∃ Ig, Ig = z_up I3 33 0 20 (z_c true) := ⟨_, rfl⟩
    have gg : z_fr z_tV I Ig := by rw [hIg]; exact z_fr_up g3 rfl
    obtain ⟨I4, J4, q176, hT1, f4, j4⟩ := z_p176 (d := d + 3) (X := X) (I := Ig) (J := J3) (e := a1) ht (z_kk2_V gg h2) hen (by rw [hIg, z_up_j (by decide), ha1]; exact hT0.2.1)
    have g4 : z_fr z_tV I I4 := z_fr_tr gg (z_tW_V (z_t20_W (z_t33_20 f4)))
    have h20 : I4 33 0 20 = 1 := by rw [f4 33 0 20 rfl, hIg, z_up_e]; rfl
    obtain ⟨I5, J5, p178, f5, j5, hres⟩ := z_p178 (d := d + 2) (X := X) (lo := 1) (hi := 10) ht (z_kk2_V g4 h2) hen hT1 h20 (by decide)
    have g5 : z_fr z_tV I I5 := z_fr_tr g4 (z_tW_V (z_t20_W f5))
    obtain ⟨N, hN⟩ : ∃ N, N = z_kn B (z_ks B a1) (z_ke B k (z_ks B a1)) := ⟨_, rfl⟩
    rw [← hN] at hres
    obtain ⟨I6, hI6⟩ : ∃ I6, I6 = z_up I5 33 0 21 (I4 33 0 19) := ⟨_, rfl⟩
    have g6 : z_fr z_tY I I6 := by rw [hI6]; exact z_fr_up (z_tV_Y g5) rfl
    have jj5 : z_jn J J5 := z_jn_tr j3 (z_jn_tr j4 j5)
    -- the run up to the end that is wanted
    have begin1 : ∀ I7 J7, z_ev (d + 5) (z_en 179 [z_r 33 0] (true, X, I6, J5)) (none, (true, X, I7, J7)) → ∀ r, z_ev (d + 6) (183, 57, [some (z_r 33 0), some (z_i (Int32.ofNat a)), some (z_i 0)], [], (true, X, I7, J7)) r → z_ev (d + 6) (z_en 183 [z_r 33 0, z_i (Int32.ofNat a)] (true, X, I, J)) r := fun I7 J7 p r hr => z_q183_e _ ⟨fun _ => ⟨_, _, _, p176, true, _, _, _, p177, fun q => absurd q (by decide), fun _ => ⟨_, _, _, by rw [← hIg]; exact q176, _, _, _, _, p178, _, _, _, by rw [← hI6]; exact p, hr⟩⟩, fun q => fb q⟩
    rcases hres with ⟨hbw, hval, h20', hT2⟩ | ⟨hbw, h20', h16⟩
    · obtain ⟨b1, b2⟩ := z_bw_t.mp hbw
      rw [hval] at hI6
      have hNr : 1 ≤ N ∧ N ≤ 10 := ⟨b1, b2⟩
      obtain ⟨n, hn, eNn⟩ := z_nat' (n := 10) (Int32.le_trans (by decide) b1) b2 (by decide)
      have hn1 : 1 ≤ n := (z_ole (a := 1) (by decide) (by omega)).mp (by rw [← eNn]; exact b1)
      have ecl : N.toNatClampNeg = n := by rw [eNn]; exact z_cl_nat (n := 11) (by omega) (by decide)
      obtain ⟨a2, ha2⟩ : ∃ a2, a2 = z_ke B k (z_ks B a1) := ⟨_, rfl⟩
      have hen2 : a2 ≤ k := by rw [ha2]; exact z_ke_le ht (z_ks_le ht hen)
      rw [← ha2] at hT2
      have hT2' : z_kT B k a2 I6 J5 := by
        obtain ⟨t1, t2, t3, t4, t5⟩ := hT2
        rw [hI6]
        exact ⟨by rw [z_up_j (by decide)]; exact t1, by rw [z_up_j (by decide)]; exact t2, by rw [z_up_j (by decide)]; exact t3, by rw [z_up_j (by decide)]; exact t4, t5⟩
      have kk6 : z_kk2 I6 B k := by
        rw [hI6]
        exact ⟨by rw [z_up_j (by decide), g5 33 0 14 rfl]; exact h2.1, fun e he => by rw [z_up_t (by decide), g5 43 0 e rfl]; exact h2.2 e he⟩
      obtain ⟨I7, J7, p179, f7, j7, hres2⟩ := z_p179 (d := d + 2) (X := X) ht kk6 hen2 hT2' (by rw [hI6, z_up_j (by decide)]; exact h20')
      have g7 : z_fr z_tY I I7 := z_fr_tr g6 (z_tV_Y (z_tW_V (z_t20_W f7)))
      have jj7 := z_jn_tr jj5 j7
      rcases hres2 with ⟨h59, h20'', hT3⟩ | ⟨h59, h20'', h16⟩
      · obtain ⟨a3, ha3⟩ : ∃ a3, a3 = z_ke B k (z_ks B a2) := ⟨_, rfl⟩
        have hen3 : a3 ≤ k := by rw [ha3]; exact z_ke_le ht (z_ks_le ht hen2)
        rw [← ha3] at hT3
        obtain ⟨I8, l57, m8, f8⟩ := z_l57 (d := d) (X := X) (I := I7) (J := J7) (x1 := Int32.ofNat a) 10 0 (by omega) I7 (fun p hp => absurd hp (Nat.not_lt_zero p)) z_fr_rf
        have g8 : z_fr z_tY I I8 := z_fr_tr g7 (z_tV_Y (z_44_V f8))
        have e21 : I8 33 0 21 = Int32.ofNat n := by rw [f8 33 0 21 rfl, f7 33 0 21 rfl, hI6, z_up_e]; exact eNn
        have kk8 : z_kk2 I8 B k := ⟨by rw [f8 33 0 14 rfl, f7 33 0 14 rfl]; exact kk6.1, fun e he => by rw [f8 43 0 e rfl, f7 43 0 e rfl]; exact kk6.2 e he⟩
        have hT8 : z_kT B k a3 I8 J7 := by
          obtain ⟨t1, t2, t3, t4, t5⟩ := hT3
          exact ⟨by rw [f8 33 0 16 rfl]; exact t1, by rw [f8 33 0 17 rfl]; exact t2, by rw [f8 33 0 15 rfl]; exact t3, by rw [f8 33 0 19 rfl]; exact t4, t5⟩
        obtain ⟨I9, J9, l76, f9, j9, hku⟩ := z_l76 (d := d) (X := X) (I := I8) (J := J7) (x1 := Int32.ofNat a) (x2 := Int32.ofNat 10) ht hn1 hn kk8 e21 160 a3 (fun _ _ => False) I8 J7 hen3 (by omega) hT8 (by rw [f8 33 0 20 rfl]; exact h20'') m8 (fun p q h => False.elim h) z_fr_rf z_jn_rf
        have g9 : z_fr z_tY I I9 := z_fr_tr g8 (z_tV_Y f9)
        have jj9 := z_jn_tr jj7 j9
        have ev : z_kx B k = match z_kp B k n 160 a3 (fun _ _ => False) with
          | Sum.inl x => Sum.inl x
          | Sum.inr R => Sum.inr (n, R) := by
          unfold z_kx
          rw [if_neg n0, ← ha1, ← hN, if_neg (fun q => q hNr), ← ha2, if_neg (fun q => q h59), ecl, ← ha3]
          rfl
        cases hk9 : z_kp B k n 160 a3 (fun _ _ => False) with
        | inl x =>
          rw [hk9] at hku ev
          obtain ⟨u1, u2⟩ := hku
          exact ⟨_, J9, _, begin1 I7 J7 p179 _ (l57 _ (l76 _ (fault76 x _ I9 J9 u1 u2))), jj9, z_up_e, Or.inl ⟨x, ev, rfl, z_fr_up g9 rfl⟩⟩
        | inr R =>
          rw [hk9] at hku ev
          obtain ⟨u1, u2, ⟨m, m1, m2, m3⟩, u4⟩ := hku
          have u1' : ¬ I9 33 0 20 = 0 := by rw [u1]; decide
          have e21' : I9 33 0 21 = Int32.ofNat n := by rw [f9 33 0 21 rfl]; exact e21
          obtain ⟨I10, hI10⟩ : ∃ I10, I10 = z_up (z_up I9 33 0 14 (0 : Int32)) 34 0 a (I9 33 0 21) := ⟨_, rfl⟩
          obtain ⟨I', c1, c2, c3⟩ := z_l184 (d := d) (X := X) (I := I10) (J := J9) ha hn (by rw [hI10, z_up_e]; exact e21') (m := m) (fun p hp => by rw [hI10, z_up_t (by decide), z_up_t (by decide)]; exact m1 p hp) m2 10 0 (by omega) I10 (fun p hp => absurd hp (Nat.not_lt_zero p)) z_fr_rf
          have st : z_ev (d + 6) (183, 76, [some (z_r 33 0), some (z_i (Int32.ofNat a)), some (z_i (Int32.ofNat 10))], [], (true, X, I9, J9)) (some (z_i (z_sm (fun p => I' 35 0 (10 * a + p)) n / 2)), (true, X, I', J9)) := z_q183_76 _ _ ⟨fun q => absurd q u1', fun _ => ⟨fun _ => ⟨a, rfl, ha, by rw [← hI10]; exact c1⟩, fun q => absurd u2 q⟩⟩
          have g10 : z_fr (z_tX a) I I10 := by
            rw [hI10]
            exact z_fr_up (z_fr_up (z_tY_X g9) rfl) (by unfold z_tX; rw [Nat.beq_refl a]; rfl)
          refine ⟨I', J9, _, begin1 I7 J7 p179 _ (l57 _ (l76 _ st)), jj9, ?_, Or.inr ⟨n, R, m, ev, hn, rfl, z_fr_tr g10 (z_fr_mn c3 (fun a1 b1 c1 q => by unfold z_tX; rw [q, Bool.or_true])), ?_, c2, m2, m3, u4⟩⟩
          · rw [z_fr_t c3 33 (fun _ _ => rfl), hI10, z_up_t (by decide), z_up_e]
          · rw [z_fr_t c3 34 (fun _ _ => rfl), hI10, z_up_e]
            exact e21'
      · obtain ⟨I', c1, c2, c3⟩ := fault (z_ks B a2) I7 J7 h20'' h16
        have ev : z_kx B k = Sum.inl (z_ks B a2) := by
          unfold z_kx
          rw [if_neg n0, ← ha1, ← hN, if_neg (fun q => q hNr), ← ha2, if_pos h59]
        exact ⟨I', J7, _, begin1 I7 J7 p179 _ c1, jj7, c2, Or.inl ⟨_, ev, rfl, z_fr_tr g7 c3⟩⟩
    · have hNr : ¬ (1 ≤ N ∧ N ≤ 10) := fun q => by rw [z_bw_t.mpr q] at hbw; cases hbw
      have h20'' : I6 33 0 20 = 0 := by rw [hI6, z_up_j (by decide)]; exact h20'
      have p179 := z_p179z (d := d + 2) (X := X) (J := J5) h20''
      obtain ⟨I', c1, c2, c3⟩ := fault (z_ks B a1) I6 J5 h20'' (by rw [hI6, z_up_j (by decide)]; exact h16)
      have ev : z_kx B k = Sum.inl (z_ks B a1) := by
        unfold z_kx
        rw [if_neg n0, ← ha1, ← hN, if_pos hNr]
      exact ⟨I', J5, _, begin1 I6 J5 p179 _ c1, jj5, c2, Or.inl ⟨_, ev, rfl, z_fr_tr g6 c3⟩⟩
end
