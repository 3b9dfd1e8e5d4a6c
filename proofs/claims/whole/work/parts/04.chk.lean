noncomputable def z_nm (y : Nat) : MethodName := (z_mi y).1
noncomputable def z_cw (y : Nat) : Cond := .code (z_mi y).1 (z_mi y).2.1 (z_mi y).2.2.1 (z_mi y).2.2.2
def z_ec (a : Nat) : String := if a = 2 then "ShareNets$Net" else if a = 3 then "ShareNets$Share" else "ShareNets$Sheet"
def z_fd (e a : Nat) : String × String × String × Bool := (z_cl.getD e ("", z_T0, 0)).2.1 a
def z_fn (e : Nat) : Nat := (z_cl.getD e ("", z_T0, 0)).2.2
/-- the words that an entry asks for -/
noncomputable def z_need (y : Nat) (q : z_E) : List Cond :=
  match q with
  | (ins, _, (a, b, e, f), ki, kj) => match ins with
    | .ldc ix | .ldc_w ix => if a = 1 then [.stringRef (z_nm y).cls ix (z_stx b)] else [.constant (z_nm y).cls ix ki]
    | .ldc2_w ix => [.constantLong (z_nm y).cls ix kj]
    | .getfield ix | .putfield ix =>
      if e = 99 then [.fieldLink (z_nm y).cls ix "java/lang/String" (if a = 0 then "value" else "coder") (if a = 0 then "[B" else "B")]
      else if f = 0 then [.fieldLink (z_nm y).cls ix (z_fd e a).1 (z_fd e a).2.1 (z_fd e a).2.2.1]
      else [.fieldLink (z_nm y).cls ix (z_nm y).cls (z_fd e a).2.1 (z_fd e a).2.2.1, .sameField (z_nm y).cls (z_fd e a).1 (z_fd e a).2.1 (z_fd e a).2.2.1]
    | .getstatic ix => if f = 1 then [.fieldLinkNest (z_nm y).cls ix (z_stn a).1 (z_stn a).2.1 (z_stn a).2.2 "ShareNets"] else [.fieldLink (z_nm y).cls ix (z_stn a).1 (z_stn a).2.1 (z_stn a).2.2]
    | .invokestatic ix | .invokespecial ix | .invokevirtual ix =>
      if b = 9 then [.methodLink (z_nm y).cls ix Lib.objectInit, .instanceMethod Lib.objectInit, .code Lib.objectInit ⟨#[0xb1]⟩ 1 none]
      else if b = 6 then [.methodLink (z_nm y).cls ix (z_vx a), .sameMethod (z_vx a).cls (z_nm (z_vo a)).cls (z_vx a).name (z_vx a).desc, .instanceMethod (z_nm (z_vo a))] ++
        ([3, 6, 5, 0] : List Nat).flatMap (fun ci => match z_vt a ci with
          | none => []
          | some y' => [.selects (z_cn ci) (z_vx a) (z_nm y'), .instanceMethod (z_nm y'), .initialized (z_nm y').cls])
      else if b = 7 then [.methodLink (z_nm y).cls ix ⟨z_cn f, (z_nm a).name, (z_nm a).desc⟩, .sameMethod (z_cn f) (z_nm a).cls (z_nm a).name (z_nm a).desc, .superclass (z_nm y).cls (z_cn f), .instanceMethod (z_nm a), .initialized (z_nm a).cls]
      else [if b = 1 ∨ b = 3 then .methodLinkNest (z_nm y).cls ix (z_nm a) "ShareNets" else .methodLink (z_nm y).cls ix (z_nm a), .initialized (z_nm a).cls] ++
        (if b < 2 then [.static (z_nm a)] else if b < 4 then [.instanceMethod (z_nm a)] else [.instanceMethod (z_nm a), .selects (z_nm a).cls (z_nm a) (z_nm a)])
    | .new ix => [.classLink (z_nm y).cls ix (z_cn a), .instantiable (z_cn a) (z_fn a), .initialized (z_cn a)]
    | .newarray _ => [.arrayClass (if a = 0 then .int else .long)]
    | .anewarray ix => [.classLink (z_nm y).cls ix (z_ec a), .arrayOver (.object (z_ec a))]
    | .instanceof ix => [.classLink (z_nm y).cls ix (z_cn a)]
    | _ => []
def z_tok (pc : Nat) (off : Int) (a : Nat) : Bool := decide ((pc : Int) + off = (a : Int))
def z_pn (m : MethodName) (n : Nat) : Bool := decide (m.cls ≠ "java/lang/invoke/MethodHandle" ∧ m.cls ≠ "java/lang/invoke/VarHandle" ∧ (parseMethodDescriptor m.desc).map (fun d => d.parameters.length) = some n)
/-- what a program sees of an entry, the bytes apart -/
noncomputable def z_oke (y pc : Nat) (q : z_E) : Bool :=
  match q with
  | (ins, len, (a, b, e, f), ki, kj) => match ins with
    | .iconst n => Nat.beq len 1 && decide (Int32.ofInt n = ki)
    | .bipush n => Nat.beq len 2 && decide ((Int8.ofInt n).toInt32 = ki)
    | .sipush n => Nat.beq len 3 && decide ((Int16.ofInt n).toInt32 = ki)
    | .ldc ix => Nat.beq len 2 && (bif Nat.beq a 1 then Nat.blt b 4 && decide ((z_nm y).cls = "ShareNets$Tape") && Nat.beq ix (([39, 60, 62, 64] : List Nat).getD b 0) else true)
    | .ldc_w _ => Nat.beq len 3
    | .ldc2_w _ => Nat.beq len 3
    | .lconst n => Nat.beq len 1 && decide (Int64.ofNat (n : Nat) = kj)
    | .aconst_null => Nat.beq len 1
    | .iload i | .lload i | .aload i => Nat.beq len 2 && Nat.beq a i
    | .istore i | .astore i => Nat.beq len 2 && Nat.beq a i && Nat.blt a (z_ml y)
    | .lstore i => Nat.beq len 2 && Nat.beq a i && Nat.blt (a + 1) (z_ml y)
    | .iload_n k | .lload_n k | .aload_n k => Nat.beq len 1 && Nat.beq a k.val
    | .istore_n k | .astore_n k => Nat.beq len 1 && Nat.beq a k.val && Nat.blt a (z_ml y)
    | .lstore_n k => Nat.beq len 1 && Nat.beq a k.val && Nat.blt (a + 1) (z_ml y)
    | .iinc i n => Nat.beq len 3 && Nat.beq a i && decide (Int32.ofInt n = ki) && Nat.blt a (z_ml y)
    | .ifCond _ off | .if_icmp _ off | .goto off | .ifnull off | .ifnonnull off => Nat.beq len 3 && z_tok pc off a
    | .tableswitch d lo hi os => decide (hi + 1 - lo = os.size) && decide (-1000 ≤ lo) && decide (lo ≤ hi) && decide (hi ≤ 1000) && decide (0 ≤ (pc : Int) + d) && os.toList.all (fun o => decide (0 ≤ (pc : Int) + o))
    | .lookupswitch d ps => (ps.toList.zip (ps.toList.drop 1)).all (fun (a, next) => a.1 < next.1) && decide (0 ≤ (pc : Int) + d) && ps.toList.all (fun o => decide (-1000 ≤ o.1) && decide (o.1 ≤ 1000) && decide (0 ≤ (pc : Int) + o.2))
    | .getfield _ => Nat.beq len 3 && (bif Nat.beq e 99 then Nat.blt a 2 else Nat.blt e 13 && Nat.blt a (z_fn e) && Nat.beq b ((z_ftl.getD e []).getD a 9))
    | .putfield _ => Nat.beq len 3 && Nat.blt e 13 && Nat.blt a (z_fn e) && Nat.beq b ((z_ftl.getD e []).getD a 9) && Nat.beq f 0 && (bif (z_fd e a).2.2.2 then decide ((z_nm y).name = "<init>") && decide ((z_fd e a).1 = (z_nm y).cls) else true)
    | .getstatic _ => Nat.beq len 3 && Nat.blt a 6 && (bif Nat.beq f 1 then Nat.blt a 4 else Nat.beq f 0)
    | .invokestatic _ => Nat.beq len 3 && Nat.blt b 2 && Nat.blt a 285 && z_pn (z_nm a) e
    | .invokespecial _ => Nat.beq len 3 && ((Nat.beq b 9 && Nat.beq e 0) || ((Nat.beq b 2 || Nat.beq b 3) && Nat.blt a 285 && decide ((z_nm a).name = "<init>") && z_pn (z_nm a) e && decide ((z_mi a).2.2.2 = none)) || (Nat.beq b 7 && Nat.blt a 285 && decide ((z_nm a).name ≠ "<init>") && z_pn (z_nm a) e))
    | .invokevirtual _ => Nat.beq len 3 && ((Nat.beq b 4 && Nat.blt a 285 && z_pn (z_nm a) e) || (Nat.beq b 6 && Nat.blt a 5 && z_pn (z_vx a) e && z_pn (z_nm (z_vo a)) e))
    | .new _ => Nat.beq len 3 && Nat.blt a 13
    | .newarray t => Nat.beq len 2 && ((decide (t = .int) && Nat.beq a 0) || (decide (t = .long) && Nat.beq a 1))
    | .anewarray _ => Nat.beq len 3 && (Nat.beq a 2 || Nat.beq a 3 || Nat.beq a 4)
    | .instanceof _ => Nat.beq len 3 && Nat.blt a 13
    | .ireturn => Nat.beq len 1 && ((Nat.beq a 0 && decide ((z_mi y).2.2.2 = some .int)) || (Nat.beq a 1 && decide ((z_mi y).2.2.2 = some .boolean)) || (Nat.beq a 2 && decide ((z_mi y).2.2.2 = some .byte)) || (Nat.beq a 3 && decide ((z_mi y).2.2.2 = some .char)))
    | .lreturn => Nat.beq len 1 && decide ((z_mi y).2.2.2 = some .long)
    | .areturn => Nat.beq len 1 && decide ((z_mi y).2.2.2 = some (.object "ShareNets$Share"))
    | .return_ => Nat.beq len 1 && decide ((z_mi y).2.2.2 = none)
    | _ => Nat.beq len 1
noncomputable def z_ck1 (y : Nat) (p : Nat × List (Nat × z_E)) : Bool := p.2.all (fun r => decide (decode (z_mi y).2.1 r.1 = .ok (r.2.1, r.2.2.1)) && z_oke y r.1 r.2)
noncomputable def z_cka (y : Nat) : Bool := (z_kl y).all (z_ck1 y)
noncomputable def z_nda (y : Nat) : List Cond := (z_kl y).flatMap (fun p => p.2.flatMap (fun r => z_need y r.2))
