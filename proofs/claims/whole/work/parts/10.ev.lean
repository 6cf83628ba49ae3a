/-- one instruction that neither calls nor ends -/
def ex1 (i : Nat) (ins : Instr) (ls : List (Option Value)) (st : List Value) (h : Hp) : Option Fr := match ins with
  | .iload n => xLdI n i ls st h
  | .lload n => xLdL n i ls st h
  | .aload n => xLdA n i ls st h
  | .istore n => xStI n i ls st h
  | .lstore n => xStL n i ls st h
  | .astore n => xStA n i ls st h
  | .iinc n c => xInc n c i ls st h
  | .iconst n => some (i + 1, ls, .int (Int32.ofInt n) :: st, h)
  | .jsr_w n => some (i + 1, ls, .long (Int64.ofInt n) :: st, h)
  | .iadd => xI2 (fun x y => x + y) i ls st h
  | .isub => xI2 (fun x y => x - y) i ls st h
  | .imul => xI2 (fun x y => x * y) i ls st h
  | .iand => xI2 (fun x y => x &&& y) i ls st h
  | .ior => xI2 (fun x y => x ||| y) i ls st h
  | .ixor => xI2 (fun x y => x ^^^ y) i ls st h
  | .ishl => xI2 (fun x y => x <<< (y &&& 31)) i ls st h
  | .ishr => xI2 (fun x y => x >>> (y &&& 31)) i ls st h
  | .iushr => xI2 (fun x y => (x.toUInt32 >>> (y.toUInt32 &&& Int32.toUInt32 31)).toInt32) i ls st h
  | .idiv => xI2z (fun x y => x / y) i ls st h
  | .irem => xI2z (fun x y => x % y) i ls st h
  | .ineg => xI1 (fun x => .int (-x)) i ls st h
  | .i2l => xI1 (fun x => .long x.toInt64) i ls st h
  | .i2b => xI1 (fun x => .int x.toInt8.toInt32) i ls st h
  | .l2i => xL1 (fun x => .int x.toInt32) i ls st h
  | .lneg => xL1 (fun x => .long (-x)) i ls st h
  | .ladd => xL2 (fun x y => x + y) i ls st h
  | .lsub => xL2 (fun x y => x - y) i ls st h
  | .lmul => xL2 (fun x y => x * y) i ls st h
  | .lor => xL2 (fun x y => x ||| y) i ls st h
  | .ldiv => xL2z (fun x y => x / y) i ls st h
  | .lrem => xL2z (fun x y => x % y) i ls st h
  | .lshl => xLsh (fun x y => x <<< (y.toInt64 &&& 63)) i ls st h
  | .lcmp => xCmp i ls st h
  | .dup => xDup i ls st h
  | .dup2 => xDup2 i ls st h
  | .pop => xPop i ls st h
  | .goto t => some (t.toNat, ls, st, h)
  | .if_icmp c t => xBr2 c t i ls st h
  | .ifCond c t => xBr1 c t i ls st h
  | .tableswitch d lo hi o => xSw d lo hi o i ls st h
  | .getfield c => xGet c i ls st h
  | .putfield c => xPut c i ls st h
  | .iaload => xIal i ls st h
  | .iastore => xIas i ls st h
  | .laload => xJal i ls st h
  | .lastore => xJas i ls st h
  | .baload => xBal i ls st h
  | .bastore => xBas i ls st h
  | .aaload => xAal i ls st h
  | .aastore => xAas i ls st h
  | .arraylength => xLen i ls st h
  | .saload => xSal i ls st h
  | .sastore => xSlen i ls st h
  | .newarray t => xNwa (atk t) i ls st h
  | .anewarray k => xNwa k i ls st h
  | .new k => xNew k (gN k) i ls st h
  | .invokedynamic q => xDyn q i ls st h
  | _ => none
/-- a call: which method, with what, and what is left -/
def cl (ins : Instr) (st : List Value) (h : Hp) : Option (Nat × List Value × List Value) := match ins with
  | .invokevirtual k => match st.drop (gNP k) with
    | .ref b :: r => if zK h b = gOwn k ∧ b < zN h then some (k, .ref b :: (st.take (gNP k)).reverse, r) else none
    | _ => none
  | .invokespecial k => match st.drop (gNP k) with
    | .ref b :: r => some (k, .ref b :: (st.take (gNP k)).reverse, r)
    | _ => none
  | .invokestatic k => if gNP k ≤ st.length then some (k, (st.take (gNP k)).reverse, st.drop (gNP k)) else none
  | _ => none
/-- an end: what is answered -/
def rtv (k : Nat) (ins : Instr) (st : List Value) : Option (Option Value) := match ins with
  | .return_ => if st = [] ∧ gRc k = 0 then some none else none
  | .ireturn => match st with
    | [.int x] => if gRc k = 1 ∨ gRc k = 2 ∧ (x = 0 ∨ x = 1) then some (some (.int x)) else none
    | _ => none
  | .lreturn => match st with
    | [.long x] => if gRc k = 3 then some (some (.long x)) else none
    | _ => none
  | .areturn => match st with
    | [.ref x] => if gRc k = 4 then some (some (.ref x)) else none
    | _ => none
  | _ => none
/-- the machine: n bounds the steps, d the depth of calls; 0: it returned, 1: it threw -/
def ev : Nat → Nat → Nat → Nat → List (Option Value) → List Value → Hp → Option (Nat × Option Value × Hp)
  | 0, _, _, _, _, _, _ => none
  | n + 1, d, k, i, ls, st, h => match (gRes k)[i]? with
    | none => none
    | some ins => match cl ins st h with
      | some (y, a, r) => match d with
        | 0 => none
        | d' + 1 => if catS r ≤ 8 ∧ (eL a).length ≤ gML y then (match ev n d' y 0 (entL (gML y) a) [] h with
          | some (0, v, h') => if (zN h' = zN h ∧ oOK (zN h') v = true) ∨ fOK (zN h) ls r = true then ev n (d' + 1) k (i + 1) ls (v.toList ++ r) h' else none
          | some (_, _, h') => match gHd k i with
            | some j => match (gRes k)[j]? with
              | some (.astore x) => if zN h' = zN h then ev n (d' + 1) k (j + 1) ((ps0 ls x).set x none) [] h' else none
              | _ => none
            | none => none
          | none => none) else none
      | none => match rtv k ins st with
        | some v => some (0, v, h)
        | none => match ins with
          | .athrow => some (1, none, zThr h)
          | _ => match ex1 i ins ls st h with
            | some (i', ls', st', h') => ev n d k i' ls' st' h'
            | none => none
