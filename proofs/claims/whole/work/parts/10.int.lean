/-! the interpreter -/
def z_up {α : Type} (f : Nat → Nat → Nat → α) (t i j : Nat) (v : α) : Nat → Nat → Nat → α := fun a b c => if a = t ∧ b = i ∧ c = j then v else f a b c
def z_zr {α : Type} (f : Nat → Nat → Nat → α) (t i : Nat) (v : α) : Nat → Nat → Nat → α := fun a b c => if a = t ∧ b = i then v else f a b c
def z_u1 (f : Nat → Nat) (k v : Nat) : Nat → Nat := fun a => if a = k then v else f a
abbrev z_S : Type := z_C ⊕ (Option z_V × z_M) ⊕ (Nat × List z_V × z_C) ⊕ Unit
abbrev z_nx (c : z_C) : z_S := Sum.inl c
abbrev z_rt (v : Option z_V) (M : z_M) : z_S := Sum.inr (Sum.inl (v, M))
abbrev z_ca (y : Nat) (as : List z_V) (c : z_C) : z_S := Sum.inr (Sum.inr (Sum.inl (y, as, c)))
abbrev z_er : z_S := Sum.inr (Sum.inr (Sum.inr ()))
/-- the class of an object -/
def z_co (M : z_M) (t i : Nat) : Option Nat := bif Nat.beq t 32 then some (M.2.1.2.2.1 i) else z_tc t
/-- there is such a cell -/
def z_g (M : z_M) (t i : Nat) : Bool := bif Nat.beq t 32 then (M.1 && decide (i < M.2.1.1)) else bif M.1 then decide (i < z_cnt t) else (decide (z_off t i < M.2.1.1) && decide (z_un (z_off t i) = (t, i)))
/-- a reference that a cell holds -/
def z_gr (M : z_M) (t i j : Nat) : Option (Nat × Nat) := bif M.1 then (bif Nat.beq t 11 then M.2.1.2.2.2 t i j else z_fin t i j) else M.2.1.2.2.2 t i j
def z_rf (o : Option (Nat × Nat)) : z_V := match o with
  | none => z_n
  | some q => Sum.inr (Sum.inr (Sum.inl q))
/-- a value of type code ty out of a slot -/
def z_fg (M : z_M) (t i j ty : Nat) : z_V := bif Nat.beq ty 1 then z_j (M.2.2.2 t i j) else bif Nat.beq ty 2 then z_rf (z_gr M t i j) else z_i (M.2.2.1 t i j)
/-- the constant rows: FORMS, FORM_INDEX, PAIR_LOW, PAIR_HIGH -/
def z_stc : List (List Int32) := [[0, 1, 3, 7, 11, 12, 13, 15, 30, 31, 63], [0, 1, 1, 2, 1, 2, 2, 3, 1, 2, 2, 4, 5, 6, 6, 7, 1, 2, 5, 6, 2, 4, 6, 7, 2, 3, 6, 7, 6, 7, 8, 9, 1, 5, 2, 6, 2, 6, 4, 7, 2, 6, 3, 7, 6, 8, 7, 9, 2, 6, 6, 8, 3, 7, 7, 9, 4, 7, 7, 9, 7, 9, 9, 10], [0, 0, 1, 0, 1, 2], [1, 2, 2, 3, 3, 3]]
/-- the bytes of the texts: posts, all, ring, road -/
def z_sby : List (List Int32) := [[112, 111, 115, 116, 115], [97, 108, 108], [114, 105, 110, 103], [114, 111, 97, 100]]
def z_in (x : Int32) (n : Nat) : Bool := decide (¬ (x < 0 ∨ n ≤ x.toNatClampNeg))
def z_ct : List z_V → Nat
  | [] => 0
  | Sum.inr (Sum.inl _) :: l => 2 + z_ct l
  | _ :: l => 1 + z_ct l
def z_tk : Nat → List z_V → List z_V → Option (List z_V × List z_V)
  | 0, st, acc => some (acc, st)
  | n + 1, v :: st, acc => z_tk n st (v :: acc)
  | _ + 1, [], _ => none
/-- an answer of a small type as its type keeps it: 0 int, 1 boolean, 2 byte, 3 char -/
def z_nr (a : Nat) (v : Int32) : Bool := bif Nat.beq a 0 then true else bif Nat.beq a 1 then (v == 0 || v == 1) else bif Nat.beq a 2 then decide (v.toInt8.toInt32 = v) else decide (v.toUInt32.toUInt16.toUInt32.toInt32 = v)
def z_tg (pc : Nat) (o : Int) : Nat := ((pc : Int) + o).toNat
def z_tsel (pc : Nat) (x : Int32) (d : Int) : List Int → Int → Nat
  | [], _ => z_tg pc d
  | o :: os, k => if x = Int32.ofInt k then z_tg pc o else z_tsel pc x d os (k + 1)
def z_lsel (pc : Nat) (x : Int32) (d : Int) : List (Int × Int) → Nat
  | [] => z_tg pc d
  | o :: os => if x = Int32.ofInt o.1 then z_tg pc o.2 else z_lsel pc x d os
/-- one value stored; a long is never cut in two -/
def z_lst (ls : List (Option z_V)) (i : Nat) (v : z_V) : Option (List (Option z_V)) :=
  match (bif Nat.beq i 0 then none else (ls.getD (i - 1) none)) with
  | some (Sum.inr (Sum.inl _)) => none
  | _ => match v with
    | Sum.inr (Sum.inl _) => some ((ls.set i (some v)).set (i + 1) none)
    | _ => some (ls.set i (some v))
/-- all is made, and every lasting reference is as it must be -/
def z_done (n : Nat) (R : Nat → Nat → Nat → Option (Nat × Nat)) : Bool := Nat.beq n 102 && z_fdom.all (fun q => decide (R q.1 q.2.1 q.2.2 = z_fin q.1 q.2.1 q.2.2))
def z_new (M : z_M) (c : Nat) : Option (z_M × Nat × Nat) :=
  let N := (z_ftl.getD c []).length
  bif M.1 then
    bif (([0, 3, 5, 6] : List Nat).contains c) then
      some ((true, (M.2.1.1 + 1, M.2.1.2.1 + N, z_u1 M.2.1.2.2.1 M.2.1.1 c, M.2.1.2.2.2), z_zr M.2.2.1 32 M.2.1.1 0, M.2.2.2), 32, M.2.1.1)
    else none
  else
    let q := z_un M.2.1.1
    bif decide (z_tc q.1 = some c) then
      some ((false, (M.2.1.1 + 1, M.2.1.2.1 + N, M.2.1.2.2.1, z_zr M.2.1.2.2.2 q.1 q.2 none), z_zr M.2.2.1 q.1 q.2 0, z_zr M.2.2.2 q.1 q.2 0), q.1, q.2)
    else none
def z_newa (M : z_M) (a : Nat) (x : Int32) : Option (z_M × Nat × Nat) :=
  bif M.1 then none else
    let q := z_un M.2.1.1
    match z_ta q.1 with
    | none => none
    | some (e, n) =>
      bif Nat.beq e a && z_in x (n + 1) && Nat.beq x.toNatClampNeg n then
        some ((false, (M.2.1.1 + 1, M.2.1.2.1 + n, M.2.1.2.2.1, z_zr M.2.1.2.2.2 q.1 q.2 none), z_zr M.2.2.1 q.1 q.2 0, z_zr M.2.2.2 q.1 q.2 0), q.1, q.2)
      else none
/-- may a value lie in a row of references of element code e -/
def z_fit (M : z_M) (e : Nat) (v : z_V) : Option (Option (Nat × Nat)) := match v with
  | Sum.inr (Sum.inr (Sum.inr ())) => some none
  | Sum.inr (Sum.inr (Sum.inl (t, i))) => bif z_g M t i then (match z_co M t i with
      | none => none
      | some c => bif (bif Nat.beq e 2 then Nat.beq c 2 else bif Nat.beq e 4 then Nat.beq c 4 else (([0, 3, 5, 6] : List Nat).contains c)) then some (some (t, i)) else none) else none
  | _ => none
/-- the receiver that a method asks for -/
def z_rc (M : z_M) (t i a : Nat) : Bool := bif Nat.beq (z_yc a) 13 then (Nat.beq t 64 && z_strm.contains a && decide (i < 4)) else (decide (z_co M t i = some (z_yc a)) && z_g M t i)
/-- Math.max and Math.abs are one step each -/
def z_math (a : Nat) (as : List z_V) : Option z_V := bif Nat.beq a 277 then (match as with
    | [Sum.inl x, Sum.inl w] => some (z_i (if x < w then w else x))
    | _ => none) else bif Nat.beq a 276 then (match as with
    | [Sum.inr (Sum.inl x)] => some (z_j (if 0 < x then x else -x))
    | _ => none) else none
def z_pl (a : Nat) : Bool := !(Nat.beq a 276 || Nat.beq a 277)
/-- a call: the arguments are taken off, then the receiver -/
def z_inv (a b e : Nat) (y pc : Nat) (ls : List (Option z_V)) (st : List z_V) (M : z_M) : z_S :=
  match z_tk e st [] with
  | none => z_er
  | some (as, r0) =>
    bif Nat.blt b 2 then (bif Nat.blt 8 (z_ct r0) then z_er else (match z_math a as with
      | some v => bif Nat.beq b 0 then z_nx (y, pc + 3, ls, v :: r0, M) else z_er
      | none => z_ca a as (y, pc + 3, ls, r0, M))) else
    match r0 with
    | Sum.inr (Sum.inr (Sum.inl (t, i))) :: rest =>
      bif Nat.blt 8 (z_ct rest) then z_er else
      bif Nat.beq b 9 then (bif Nat.blt t 64 then z_nx (y, pc + 3, ls, rest, M) else z_er) else
      bif Nat.blt b 4 then (bif Nat.blt t 64 then z_ca a (z_r t i :: as) (y, pc + 3, ls, rest, M) else z_er) else
      bif Nat.beq b 4 then (bif z_rc M t i a then z_ca a (z_r t i :: as) (y, pc + 3, ls, rest, M) else z_er) else
      bif z_g M t i then
        (match z_co M t i with
        | none => z_er
        | some c => bif Nat.beq b 7 then (bif Nat.blt c 7 then z_ca a (z_r t i :: as) (y, pc + 3, ls, rest, M) else z_er) else
          (match z_vt a c with
          | none => z_er
          | some y' => z_ca y' (z_r t i :: as) (y, pc + 3, ls, rest, M)))
      else z_er
    | _ => z_er
noncomputable def z_step (c : z_C) : z_S :=
  match c with
  | (y, pc, ls, st, M) =>
    match z_cd y pc with
    | none => z_er
    | some (ins, len, (a, b, e, _), ki, kj) =>
      match ins with
      | .iconst _ | .bipush _ | .sipush _ => z_nx (y, pc + len, ls, z_i ki :: st, M)
      | .ldc _ => z_nx (y, pc + len, ls, (bif Nat.beq a 1 then z_r 64 b else z_i ki) :: st, M)
      | .ldc_w _ => bif Nat.beq a 1 then z_er else z_nx (y, pc + len, ls, z_i ki :: st, M)
      | .lconst _ | .ldc2_w _ => z_nx (y, pc + len, ls, z_j kj :: st, M)
      | .aconst_null => z_nx (y, pc + len, ls, z_n :: st, M)
      | .iload _ | .iload_n _ => (match ls.getD a none with
        | some (Sum.inl x) => z_nx (y, pc + len, ls, z_i x :: st, M)
        | _ => z_er)
      | .lload _ | .lload_n _ => (match ls.getD a none with
        | some (Sum.inr (Sum.inl x)) => z_nx (y, pc + len, ls, z_j x :: st, M)
        | _ => z_er)
      | .aload _ | .aload_n _ => (match ls.getD a none with
        | some (Sum.inr (Sum.inr x)) => z_nx (y, pc + len, ls, Sum.inr (Sum.inr x) :: st, M)
        | _ => z_er)
      | .istore _ | .istore_n _ => (match st with
        | Sum.inl x :: r => (match z_lst ls a (z_i x) with
          | some ls' => z_nx (y, pc + len, ls', r, M)
          | none => z_er)
        | _ => z_er)
      | .lstore _ | .lstore_n _ => (match st with
        | Sum.inr (Sum.inl x) :: r => (match z_lst ls a (z_j x) with
          | some ls' => z_nx (y, pc + len, ls', r, M)
          | none => z_er)
        | _ => z_er)
      | .astore _ | .astore_n _ => (match st with
        | Sum.inr (Sum.inr x) :: r => (match z_lst ls a (Sum.inr (Sum.inr x)) with
          | some ls' => z_nx (y, pc + len, ls', r, M)
          | none => z_er)
        | _ => z_er)
      | .iinc _ _ => (match ls.getD a none with
        | some (Sum.inl x) => (match z_lst ls a (z_i (x + ki)) with
          | some ls' => z_nx (y, pc + len, ls', st, M)
          | none => z_er)
        | _ => z_er)
      | .pop => (match st with
        | Sum.inr (Sum.inl _) :: _ => z_er
        | _ :: r => z_nx (y, pc + len, ls, r, M)
        | _ => z_er)
      | .dup => (match st with
        | Sum.inr (Sum.inl _) :: _ => z_er
        | v :: r => z_nx (y, pc + len, ls, v :: v :: r, M)
        | _ => z_er)
      | .dup2 => (match st with
        | Sum.inl v :: Sum.inr (Sum.inr w) :: r => z_nx (y, pc + len, ls, z_i v :: Sum.inr (Sum.inr w) :: z_i v :: Sum.inr (Sum.inr w) :: r, M)
        | _ => z_er)
      | .iadd => (match st with
        | Sum.inl b :: Sum.inl a :: r => z_nx (y, pc + len, ls, z_i (a + b) :: r, M)
        | _ => z_er)
      | .isub => (match st with
        | Sum.inl b :: Sum.inl a :: r => z_nx (y, pc + len, ls, z_i (a - b) :: r, M)
        | _ => z_er)
      | .imul => (match st with
        | Sum.inl b :: Sum.inl a :: r => z_nx (y, pc + len, ls, z_i (a * b) :: r, M)
        | _ => z_er)
      | .idiv => (match st with
        | Sum.inl b :: Sum.inl a :: r => if b = 0 then z_er else z_nx (y, pc + len, ls, z_i (a / b) :: r, M)
        | _ => z_er)
      | .irem => (match st with
        | Sum.inl b :: Sum.inl a :: r => if b = 0 then z_er else z_nx (y, pc + len, ls, z_i (a - a / b * b) :: r, M)
        | _ => z_er)
      | .iand => (match st with
        | Sum.inl b :: Sum.inl a :: r => z_nx (y, pc + len, ls, z_i (a &&& b) :: r, M)
        | _ => z_er)
      | .ior => (match st with
        | Sum.inl b :: Sum.inl a :: r => z_nx (y, pc + len, ls, z_i (a ||| b) :: r, M)
        | _ => z_er)
      | .ixor => (match st with
        | Sum.inl b :: Sum.inl a :: r => z_nx (y, pc + len, ls, z_i (a ^^^ b) :: r, M)
        | _ => z_er)
      | .ishl => (match st with
        | Sum.inl b :: Sum.inl a :: r => z_nx (y, pc + len, ls, z_i (a <<< (b &&& 31)) :: r, M)
        | _ => z_er)
      | .ishr => (match st with
        | Sum.inl b :: Sum.inl a :: r => z_nx (y, pc + len, ls, z_i (a >>> (b &&& 31)) :: r, M)
        | _ => z_er)
      | .iushr => (match st with
        | Sum.inl b :: Sum.inl a :: r => z_nx (y, pc + len, ls, z_i (a.toUInt32 >>> (b.toUInt32 &&& Int32.toUInt32 31)).toInt32 :: r, M)
        | _ => z_er)
      | .ladd => (match st with
        | Sum.inr (Sum.inl b) :: Sum.inr (Sum.inl a) :: r => z_nx (y, pc + len, ls, z_j (a + b) :: r, M)
        | _ => z_er)
      | .lsub => (match st with
        | Sum.inr (Sum.inl b) :: Sum.inr (Sum.inl a) :: r => z_nx (y, pc + len, ls, z_j (a - b) :: r, M)
        | _ => z_er)
      | .lmul => (match st with
        | Sum.inr (Sum.inl b) :: Sum.inr (Sum.inl a) :: r => z_nx (y, pc + len, ls, z_j (a * b) :: r, M)
        | _ => z_er)
      | .ldiv => (match st with
        | Sum.inr (Sum.inl b) :: Sum.inr (Sum.inl a) :: r => if b = 0 then z_er else z_nx (y, pc + len, ls, z_j (a / b) :: r, M)
        | _ => z_er)
      | .lrem => (match st with
        | Sum.inr (Sum.inl b) :: Sum.inr (Sum.inl a) :: r => if b = 0 then z_er else z_nx (y, pc + len, ls, z_j (a - a / b * b) :: r, M)
        | _ => z_er)
      | .lneg => (match st with
        | Sum.inr (Sum.inl a) :: r => z_nx (y, pc + len, ls, z_j (-a) :: r, M)
        | _ => z_er)
      | .land => (match st with
        | Sum.inr (Sum.inl b) :: Sum.inr (Sum.inl a) :: r => z_nx (y, pc + len, ls, z_j (a &&& b) :: r, M)
        | _ => z_er)
      | .lor => (match st with
        | Sum.inr (Sum.inl b) :: Sum.inr (Sum.inl a) :: r => z_nx (y, pc + len, ls, z_j (a ||| b) :: r, M)
        | _ => z_er)
      | .lshl => (match st with
        | Sum.inl b :: Sum.inr (Sum.inl a) :: r => z_nx (y, pc + len, ls, z_j (a <<< (b.toInt64 &&& 63)) :: r, M)
        | _ => z_er)
      | .lshr => (match st with
        | Sum.inl b :: Sum.inr (Sum.inl a) :: r => z_nx (y, pc + len, ls, z_j (a >>> (b.toInt64 &&& 63)) :: r, M)
        | _ => z_er)
      | .lushr => (match st with
        | Sum.inl b :: Sum.inr (Sum.inl a) :: r => z_nx (y, pc + len, ls, z_j (a.toUInt64 >>> (b.toInt64.toUInt64 &&& Int64.toUInt64 63)).toInt64 :: r, M)
        | _ => z_er)
      | .lcmp => (match st with
        | Sum.inr (Sum.inl b) :: Sum.inr (Sum.inl a) :: r => z_nx (y, pc + len, ls, z_i (lg_cmp a b) :: r, M)
        | _ => z_er)
      | .i2l => (match st with
        | Sum.inl a :: r => z_nx (y, pc + len, ls, z_j a.toInt64 :: r, M)
        | _ => z_er)
      | .l2i => (match st with
        | Sum.inr (Sum.inl a) :: r => z_nx (y, pc + len, ls, z_i a.toInt32 :: r, M)
        | _ => z_er)
      | .i2b => (match st with
        | Sum.inl a :: r => z_nx (y, pc + len, ls, z_i a.toInt8.toInt32 :: r, M)
        | _ => z_er)
      | .i2s => (match st with
        | Sum.inl a :: r => z_nx (y, pc + len, ls, z_i a.toInt16.toInt32 :: r, M)
        | _ => z_er)
      | .i2c => (match st with
        | Sum.inl a :: r => z_nx (y, pc + len, ls, z_i (a.toUInt32 % 65536).toInt32 :: r, M)
        | _ => z_er)
      | .ifCond .eq _ => (match st with
        | Sum.inl x :: r => z_nx (y, (if x = 0 then a else pc + len), ls, r, M)
        | _ => z_er)
      | .ifCond .ne _ => (match st with
        | Sum.inl x :: r => z_nx (y, (if ¬ x = 0 then a else pc + len), ls, r, M)
        | _ => z_er)
      | .ifCond .lt _ => (match st with
        | Sum.inl x :: r => z_nx (y, (if x < 0 then a else pc + len), ls, r, M)
        | _ => z_er)
      | .ifCond .ge _ => (match st with
        | Sum.inl x :: r => z_nx (y, (if 0 ≤ x then a else pc + len), ls, r, M)
        | _ => z_er)
      | .ifCond .gt _ => (match st with
        | Sum.inl x :: r => z_nx (y, (if 0 < x then a else pc + len), ls, r, M)
        | _ => z_er)
      | .ifCond .le _ => (match st with
        | Sum.inl x :: r => z_nx (y, (if x ≤ 0 then a else pc + len), ls, r, M)
        | _ => z_er)
      | .if_icmp .eq _ => (match st with
        | Sum.inl w :: Sum.inl x :: r => z_nx (y, (if x = w then a else pc + len), ls, r, M)
        | _ => z_er)
      | .if_icmp .ne _ => (match st with
        | Sum.inl w :: Sum.inl x :: r => z_nx (y, (if ¬ x = w then a else pc + len), ls, r, M)
        | _ => z_er)
      | .if_icmp .lt _ => (match st with
        | Sum.inl w :: Sum.inl x :: r => z_nx (y, (if x < w then a else pc + len), ls, r, M)
        | _ => z_er)
      | .if_icmp .ge _ => (match st with
        | Sum.inl w :: Sum.inl x :: r => z_nx (y, (if w ≤ x then a else pc + len), ls, r, M)
        | _ => z_er)
      | .if_icmp .gt _ => (match st with
        | Sum.inl w :: Sum.inl x :: r => z_nx (y, (if w < x then a else pc + len), ls, r, M)
        | _ => z_er)
      | .if_icmp .le _ => (match st with
        | Sum.inl w :: Sum.inl x :: r => z_nx (y, (if x ≤ w then a else pc + len), ls, r, M)
        | _ => z_er)
      | .goto _ => z_nx (y, a, ls, st, M)
      | .ifnull _ => (match st with
        | Sum.inr (Sum.inr (Sum.inr ())) :: r => z_nx (y, a, ls, r, M)
        | Sum.inr (Sum.inr (Sum.inl q)) :: r => bif Nat.blt q.1 64 then z_nx (y, pc + len, ls, r, M) else z_er
        | _ => z_er)
      | .ifnonnull _ => (match st with
        | Sum.inr (Sum.inr (Sum.inr ())) :: r => z_nx (y, pc + len, ls, r, M)
        | Sum.inr (Sum.inr (Sum.inl q)) :: r => bif Nat.blt q.1 64 then z_nx (y, a, ls, r, M) else z_er
        | _ => z_er)
      | .tableswitch d lo _ os => (match st with
        | Sum.inl x :: r => z_nx (y, z_tsel pc x d os.toList lo, ls, r, M)
        | _ => z_er)
      | .lookupswitch d ps => (match st with
        | Sum.inl x :: r => z_nx (y, z_lsel pc x d ps.toList, ls, r, M)
        | _ => z_er)
      | .getfield _ => (match st with
        | Sum.inr (Sum.inr (Sum.inl (t, i))) :: r =>
          bif Nat.beq e 99 then
            (bif Nat.beq t 64 && decide (i < 4) then z_nx (y, pc + len, ls, (bif Nat.beq a 0 then z_r 65 i else z_i 0) :: r, M) else z_er)
          else bif (bif Nat.beq t 32 then Nat.beq e 3 else decide (z_tc t = some e)) && z_g M t i then z_nx (y, pc + len, ls, z_fg M t i a b :: r, M) else z_er
        | _ => z_er)
      | .putfield _ => (match st with
        | Sum.inl x :: Sum.inr (Sum.inr (Sum.inl (t, i))) :: r =>
          bif (bif Nat.beq t 32 then Nat.beq e 3 else decide (z_tc t = some e)) && (Nat.beq b 0 || (Nat.beq b 3 && z_nr 1 x)) && z_g M t i then z_nx (y, pc + len, ls, r, (M.1, M.2.1, z_up M.2.2.1 t i a x, M.2.2.2)) else z_er
        | Sum.inr (Sum.inl x) :: Sum.inr (Sum.inr (Sum.inl (t, i))) :: r =>
          bif decide (z_tc t = some e) && Nat.beq b 1 && z_g M t i then z_nx (y, pc + len, ls, r, (M.1, M.2.1, M.2.2.1, z_up M.2.2.2 t i a x)) else z_er
        | Sum.inr (Sum.inr (Sum.inl x)) :: Sum.inr (Sum.inr (Sum.inl (t, i))) :: r =>
          bif decide (z_tc t = some e) && Nat.beq b 2 && Nat.blt x.1 64 && (bif M.1 then false else true) && z_g M t i then
            (let R := z_up M.2.1.2.2.2 t i a (some x)
             bif z_done M.2.1.1 R then z_nx (y, pc + len, ls, r, (true, (0, M.2.1.2.1, M.2.1.2.2.1, R), M.2.2.1, M.2.2.2))
             else z_nx (y, pc + len, ls, r, (false, (M.2.1.1, M.2.1.2.1, M.2.1.2.2.1, R), M.2.2.1, M.2.2.2)))
          else z_er
        | _ => z_er)
      | .getstatic _ => bif Nat.blt a 4 then z_nx (y, pc + len, ls, z_r 66 a :: st, M) else bif Nat.beq a 4 then z_nx (y, pc + len, ls, z_i 1 :: st, M) else z_nx (y, pc + len, ls, z_r 68 0 :: st, M)
      | .iaload => (match st with
        | Sum.inl x :: Sum.inr (Sum.inr (Sum.inl (t, i))) :: r =>
          bif Nat.beq t 66 then (bif decide (i < 4) && z_in x (z_stc.getD i []).length then z_nx (y, pc + len, ls, z_i ((z_stc.getD i []).getD x.toNatClampNeg 0) :: r, M) else z_er)
          else bif Nat.beq t 67 then (bif Nat.beq i 0 && z_in x (M.2.2.1 67 1 0).toNatClampNeg then z_nx (y, pc + len, ls, z_i (M.2.2.1 67 0 x.toNatClampNeg) :: r, M) else z_er)
          else (match z_ta t with
            | some (0, n) => bif z_g M t i && z_in x n then z_nx (y, pc + len, ls, z_i (M.2.2.1 t i x.toNatClampNeg) :: r, M) else z_er
            | _ => z_er)
        | _ => z_er)
      | .baload => (match st with
        | Sum.inl x :: Sum.inr (Sum.inr (Sum.inl (t, i))) :: r =>
          bif Nat.beq t 65 && decide (i < 4) && z_in x (z_sby.getD i []).length then z_nx (y, pc + len, ls, z_i ((z_sby.getD i []).getD x.toNatClampNeg 0) :: r, M) else z_er
        | _ => z_er)
      | .laload => (match st with
        | Sum.inl x :: Sum.inr (Sum.inr (Sum.inl (t, i))) :: r => (match z_ta t with
            | some (1, n) => bif z_g M t i && z_in x n then z_nx (y, pc + len, ls, z_j (M.2.2.2 t i x.toNatClampNeg) :: r, M) else z_er
            | _ => z_er)
        | _ => z_er)
      | .aaload => (match st with
        | Sum.inl x :: Sum.inr (Sum.inr (Sum.inl (t, i))) :: r => (match z_ta t with
            | some (k + 2, n) => bif z_g M t i && z_in x n then z_nx (y, pc + len, ls, z_rf (z_gr M t i x.toNatClampNeg) :: r, M) else z_er
            | _ => z_er)
        | _ => z_er)
      | .iastore => (match st with
        | Sum.inl v :: Sum.inl x :: Sum.inr (Sum.inr (Sum.inl (t, i))) :: r => (match z_ta t with
            | some (0, n) => bif z_g M t i && z_in x n then z_nx (y, pc + len, ls, r, (M.1, M.2.1, z_up M.2.2.1 t i x.toNatClampNeg v, M.2.2.2)) else z_er
            | _ => z_er)
        | _ => z_er)
      | .lastore => (match st with
        | Sum.inr (Sum.inl v) :: Sum.inl x :: Sum.inr (Sum.inr (Sum.inl (t, i))) :: r => (match z_ta t with
            | some (1, n) => bif z_g M t i && z_in x n then z_nx (y, pc + len, ls, r, (M.1, M.2.1, M.2.2.1, z_up M.2.2.2 t i x.toNatClampNeg v)) else z_er
            | _ => z_er)
        | _ => z_er)
      | .aastore => (match st with
        | v :: Sum.inl x :: Sum.inr (Sum.inr (Sum.inl (t, i))) :: r => (match z_ta t with
            | some (k + 2, n) => (match z_fit M (k + 2) v with
              | some o => bif z_g M t i && z_in x n && (bif M.1 then Nat.beq t 11 else true) then z_nx (y, pc + len, ls, r, (M.1, (M.2.1.1, M.2.1.2.1, M.2.1.2.2.1, z_up M.2.1.2.2.2 t i x.toNatClampNeg o), M.2.2.1, M.2.2.2)) else z_er
              | none => z_er)
            | _ => z_er)
        | _ => z_er)
      | .arraylength => (match st with
        | Sum.inr (Sum.inr (Sum.inl (t, i))) :: r =>
          bif Nat.beq t 66 then (bif decide (i < 4) then z_nx (y, pc + len, ls, z_i (Int32.ofNat (z_stc.getD i []).length) :: r, M) else z_er)
          else bif Nat.beq t 65 then (bif decide (i < 4) then z_nx (y, pc + len, ls, z_i (Int32.ofNat (z_sby.getD i []).length) :: r, M) else z_er)
          else bif Nat.beq t 67 then (bif Nat.beq i 0 then z_nx (y, pc + len, ls, z_i (M.2.2.1 67 1 0) :: r, M) else z_er)
          else (match z_ta t with
            | some (_, n) => bif z_g M t i then z_nx (y, pc + len, ls, z_i (Int32.ofNat n) :: r, M) else z_er
            | none => z_er)
        | _ => z_er)
      | .new _ => (match z_new M a with
        | some (M', t, i) => z_nx (y, pc + len, ls, z_r t i :: st, M')
        | none => z_er)
      | .newarray _ => (match st with
        | Sum.inl x :: r => (match z_newa M a x with
          | some (M', t, i) => z_nx (y, pc + len, ls, z_r t i :: r, M')
          | none => z_er)
        | _ => z_er)
      | .anewarray _ => (match st with
        | Sum.inl x :: r => (match z_newa M a x with
          | some (M', t, i) => z_nx (y, pc + len, ls, z_r t i :: r, M')
          | none => z_er)
        | _ => z_er)
      | .instanceof _ => (match st with
        | Sum.inr (Sum.inr (Sum.inl (t, i))) :: r => bif z_g M t i then (match z_co M t i with
            | some c => bif ([0, 3, 5, 6] : List Nat).contains c && ([0, 5, 6] : List Nat).contains a then z_nx (y, pc + len, ls, z_i (bif z_sub c a then 1 else 0) :: r, M) else z_er
            | none => z_er) else z_er
        | _ => z_er)
      | .invokestatic _ | .invokespecial _ | .invokevirtual _ => z_inv a b e y pc ls st M
      | .ireturn => (match st with
        | [Sum.inl v] => bif z_nr a v then z_rt (some (z_i v)) M else z_er
        | _ => z_er)
      | .lreturn => (match st with
        | [Sum.inr (Sum.inl v)] => z_rt (some (z_j v)) M
        | _ => z_er)
      | .areturn => (match st with
        | [Sum.inr (Sum.inr v)] => z_rt (some (Sum.inr (Sum.inr v))) M
        | _ => z_er)
      | .return_ => (match st with
        | [] => z_rt none M
        | _ => z_er)
      | _ => z_er
/-- a method's first place: arguments laid out, a long in two -/
def z_la : List z_V → List (Option z_V)
  | [] => []
  | Sum.inr (Sum.inl x) :: l => some (z_j x) :: none :: z_la l
  | v :: l => some v :: z_la l
def z_en (y : Nat) (as : List z_V) (M : z_M) : z_C := (y, 0, z_la as ++ List.replicate (z_ml y - (z_la as).length) none, [], M)
noncomputable def z_rn : Nat → Nat → z_C → Option (Option z_V × z_M)
  | 0, _, _ => none
  | n + 1, d, c => match z_step c with
    | Sum.inl c' => z_rn n d c'
    | Sum.inr (Sum.inl r) => some r
    | Sum.inr (Sum.inr (Sum.inl (y, as, (y0, pc, ls, st, M)))) => (match d with
      | 0 => none
      | d' + 1 => bif Nat.ble (z_la as).length (z_ml y) && z_pl y then (match z_rn n d' (z_en y as M) with
        | none => none
        | some (v, M') => z_rn n (d' + 1) (y0, pc, ls, v.toList ++ st, M')) else none)
    | Sum.inr (Sum.inr (Sum.inr ())) => none
/-- from here the program comes to its answer, with calls at most d deep -/
def z_ev (d : Nat) (c : z_C) (r : Option z_V × z_M) : Prop := ∃ n, z_rn n d c = some r
