/-! one step, a whole run -/
section
variable {G : z_G} {L : Nat} {xs : Nat → Int32} {p : Program} {l : Launch} {e : Env} {R : Room} {s : State} {m : MethodId} {args : Array Value} {below : List Frame} {meth : Method} {c : Code} {Q : State → Prop} {n0 s0 : Nat} {M0 : z_M}
variable {y pc len a b e' f : Nat} {ki : Int32} {kj : Int64} {ls : List (Option z_V)} {st : List z_V} {M : z_M} {c' : z_C}
theorem z_one (F : z_Fx G L xs p s m meth c y M0) (hn0 : n0 = z_nc M0) (h : z_step (y, pc, ls, st, M) = Sum.inl c') (hRf : 1 ≤ R.frames) (hRl : 40 ≤ R.locals) (hRc : z_nc c'.2.2.2.2 - n0 ≤ R.cells) (hRs : z_sl c'.2.2.2.2 - s0 ≤ R.slots) (hs0 : s0 ≤ z_sl M) (K : z_K G L xs p l e R s m args below meth c Q n0 s0 c') : z_K G L xs p l e R s m args below meth c Q n0 s0 (y, pc, ls, st, M) := by
  cases hcd : z_cd y pc with
  | none =>
    exfalso
    simp only [z_step, hcd] at h
    cases h
  | some q9 =>
    obtain ⟨ins, len, ⟨a, b, e', f⟩, ki, kj⟩ := q9
    cases ins with
    | iadd => exact z_s_iadd F hcd h K
    | isub => exact z_s_isub F hcd h K
    | imul => exact z_s_imul F hcd h K
    | iand => exact z_s_iand F hcd h K
    | ior => exact z_s_ior F hcd h K
    | ixor => exact z_s_ixor F hcd h K
    | ishl => exact z_s_ishl F hcd h K
    | ishr => exact z_s_ishr F hcd h K
    | ladd => exact z_s_ladd F hcd h K
    | lsub => exact z_s_lsub F hcd h K
    | lmul => exact z_s_lmul F hcd h K
    | land => exact z_s_land F hcd h K
    | lor => exact z_s_lor F hcd h K
    | lneg => exact z_s_lneg F hcd h K
    | iushr => exact z_s_iushr F hcd h K
    | lshl => exact z_s_lshl F hcd h K
    | lshr => exact z_s_lshr F hcd h K
    | lushr => exact z_s_lushr F hcd h K
    | i2l => exact z_s_i2l F hcd h K
    | l2i => exact z_s_l2i F hcd h K
    | i2b => exact z_s_i2b F hcd h K
    | i2s => exact z_s_i2s F hcd h K
    | i2c => exact z_s_i2c F hcd h K
    | lcmp => exact z_s_lcmp F hcd h K
    | idiv => exact z_s_idiv F hcd h K
    | irem => exact z_s_irem F hcd h K
    | ldiv => exact z_s_ldiv F hcd h K
    | lrem => exact z_s_lrem F hcd h K
    | pop => exact z_s_pop F hcd h K
    | dup => exact z_s_dup F hcd h K
    | dup2 => exact z_s_dup2 F hcd h K
    | iaload => exact z_s_iaload F hcd h K
    | baload => exact z_s_baload F hcd h K
    | laload => exact z_s_laload F hcd h K
    | aaload => exact z_s_aaload F hcd h K
    | iastore => exact z_s_iastore F hcd h K
    | lastore => exact z_s_lastore F hcd h K
    | aastore => exact z_s_aastore F hcd h K
    | arraylength => exact z_s_arraylength F hcd h K
    | iconst _ => exact z_s_iconst F hcd h K
    | bipush _ => exact z_s_bipush F hcd h K
    | sipush _ => exact z_s_sipush F hcd h K
    | lconst _ => exact z_s_lconst F hcd h K
    | iload _ => exact z_s_iload F hcd h K
    | iload_n _ => exact z_s_iload_n F hcd h K
    | lload _ => exact z_s_lload F hcd h K
    | lload_n _ => exact z_s_lload_n F hcd h K
    | aload _ => exact z_s_aload F hcd h K
    | aload_n _ => exact z_s_aload_n F hcd h K
    | istore _ => exact z_s_istore F hcd h K
    | istore_n _ => exact z_s_istore_n F hcd h K
    | lstore _ => exact z_s_lstore F hcd h K
    | lstore_n _ => exact z_s_lstore_n F hcd h K
    | astore _ => exact z_s_astore F hcd h K
    | astore_n _ => exact z_s_astore_n F hcd h K
    | goto _ => exact z_s_goto F hcd h K
    | ifnull _ => exact z_s_ifnull F hcd h K
    | ifnonnull _ => exact z_s_ifnonnull F hcd h K
    | getfield _ => exact z_s_getfield F hcd h K
    | putfield _ => exact z_s_putfield F hcd h K
    | getstatic _ => exact z_s_getstatic F hcd h K
    | ldc _ => exact z_s_ldc F hcd h K
    | instanceof _ => exact z_s_instanceof F hcd h K
    | aconst_null => exact z_s_null F hcd h K
    | ldc_w _ => exact z_s_ldcw F hcd h K
    | ldc2_w _ => exact z_s_ldc2 F hcd h K
    | iinc _ _ => exact z_s_iinc F hcd h K
    | tableswitch _ _ _ _ => exact z_s_tableswitch F hcd h K
    | lookupswitch _ _ => exact z_s_lookupswitch F hcd h K
    | new _ => exact z_s_new F hn0 hcd h hRc hRs hs0 K
    | newarray _ => exact z_s_newarray F hn0 hcd h hRc hRs hs0 K
    | anewarray _ => exact z_s_anewarray F hn0 hcd h hRc hRs hs0 K
    | invokespecial _ => exact z_s_objinit F hcd h hRf hRl K
    | invokestatic _ => exact z_s_math F hcd h hRf hRl hRc hRs K
    | ifCond cnd off =>
      cases cnd with
      | eq => exact z_s_if_eq F hcd h K
      | ne => exact z_s_if_ne F hcd h K
      | lt => exact z_s_if_lt F hcd h K
      | ge => exact z_s_if_ge F hcd h K
      | gt => exact z_s_if_gt F hcd h K
      | le => exact z_s_if_le F hcd h K
    | if_icmp cnd off =>
      cases cnd with
      | eq => exact z_s_icmp_eq F hcd h K
      | ne => exact z_s_icmp_ne F hcd h K
      | lt => exact z_s_icmp_lt F hcd h K
      | ge => exact z_s_icmp_ge F hcd h K
      | gt => exact z_s_icmp_gt F hcd h K
      | le => exact z_s_icmp_le F hcd h K
    | invokevirtual _ =>
      exfalso
      obtain ⟨-, ho, -⟩ := z_cd_ok hcd
      simp only [z_oke, Bool.and_eq_true, Bool.or_eq_true] at ho
      have hb46 : b = 4 ∨ b = 6 := by
        rcases ho.2 with ⟨⟨q1, -⟩, -⟩ | ⟨⟨⟨q1, -⟩, -⟩, -⟩
        · exact Or.inl (Nat.eq_of_beq_eq_true q1)
        · exact Or.inr (Nat.eq_of_beq_eq_true q1)
      rcases hb46 with rfl | rfl
      · simp only [z_step, hcd, z_inv, show Nat.blt 4 2 = false from rfl, show Nat.beq 4 9 = false from rfl, show Nat.blt 4 4 = false from rfl, show Nat.beq 4 4 = true from rfl, cond_true, cond_false] at h
        simp only [Bool.cond_eq_ite] at h
        (repeat' split at h) <;> (cases h; done)
      · simp only [z_step, hcd, z_inv, show Nat.blt 6 2 = false from rfl, show Nat.beq 6 9 = false from rfl, show Nat.blt 6 4 = false from rfl, show Nat.beq 6 4 = false from rfl, show Nat.beq 6 7 = false from rfl, cond_true, cond_false] at h
        simp only [Bool.cond_eq_ite] at h
        (repeat' split at h) <;> (cases h; done)
    | _ =>
      exfalso
      simp only [z_step, hcd] at h
      first
        | (cases h; done)
        | (unfold z_inv at h; simp only [Bool.cond_eq_ite] at h; (repeat' split at h) <;> cases h)
        | ((repeat' split at h) <;> cases h)
        | (simp only [Bool.cond_eq_ite] at h; (repeat' split at h) <;> cases h)
end
