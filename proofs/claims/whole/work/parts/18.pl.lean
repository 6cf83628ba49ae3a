/-! RUNS OF THE SMALL MACHINE, by what holds at their ends -/
theorem ev_mono : ∀ (n m d d' k i : Nat) (ls : List (Option Value)) (st : List Value) (h : Hp) (o : Nat × Option Value × Hp), n ≤ m → d ≤ d' → ev n d k i ls st h = some o → ev m d' k i ls st h = some o := by
  intro n
  induction n with
  | zero => intro m d d' k i ls st h o _ _ he; cases he
  | succ n ih =>
    intro m d d' k i ls st h o hm hd he
    obtain ⟨m, rfl⟩ : ∃ q, m = q + 1 := ⟨m - 1, by omega⟩
    have hm' : n ≤ m := by omega
    rw [ev_s] at he
    rw [ev_s]
    cases hf : (gRes k)[i]? with
    | none => rw [hf] at he; cases he
    | some ins =>
      rw [hf] at he
      try dsimp only at he ⊢
      cases hc : cl ins st h with
      | some q =>
        obtain ⟨y, a, r⟩ := q
        rw [hc] at he
        try dsimp only at he ⊢
        cases d with
        | zero => cases he
        | succ d =>
          obtain ⟨d', rfl⟩ : ∃ q, d' = q + 1 := ⟨d' - 1, by omega⟩
          have hd' : d ≤ d' := by omega
          try dsimp only at he ⊢
          by_cases hcon : catS r ≤ 8 ∧ (eL a).length ≤ gML y
          · rw [if_pos hcon] at he ⊢
            cases hq : ev n d y 0 (entL (gML y) a) [] h with
            | none => rw [hq] at he; cases he
            | some o1 =>
              rw [hq] at he
              rw [ih m d d' _ _ _ _ _ _ hm' hd' hq]
              obtain ⟨t1, v1, h1⟩ := o1
              cases t1 with
              | zero =>
                change (if (zN h1 = zN h ∧ oOK (zN h1) v1 = true) ∨ fOK (zN h) ls r = true then ev n (d + 1) k (i + 1) ls (v1.toList ++ r) h1 else none) = some o at he
                show (if (zN h1 = zN h ∧ oOK (zN h1) v1 = true) ∨ fOK (zN h) ls r = true then ev m (d' + 1) k (i + 1) ls (v1.toList ++ r) h1 else none) = some o
                by_cases h2 : (zN h1 = zN h ∧ oOK (zN h1) v1 = true) ∨ fOK (zN h) ls r = true
                · rw [if_pos h2] at he ⊢
                  exact ih m _ _ _ _ _ _ _ _ hm' hd he
                · rw [if_neg h2] at he; cases he
              | succ t1 =>
                change (match gHd k i with
                  | some j => match (gRes k)[j]? with
                    | some (.astore x) => if zN h1 = zN h then ev n (d + 1) k (j + 1) ((ps0 ls x).set x none) [] h1 else none
                    | _ => none
                  | none => none) = some o at he
                show (match gHd k i with
                  | some j => match (gRes k)[j]? with
                    | some (.astore x) => if zN h1 = zN h then ev m (d' + 1) k (j + 1) ((ps0 ls x).set x none) [] h1 else none
                    | _ => none
                  | none => none) = some o
                cases hg : gHd k i with
                | none => rw [hg] at he; cases he
                | some j =>
                  rw [hg] at he
                  try dsimp only at he ⊢
                  cases hj : (gRes k)[j]? with
                  | none => rw [hj] at he; cases he
                  | some jn =>
                    rw [hj] at he
                    cases jn
                    case astore x =>
                      try dsimp only at he ⊢
                      by_cases h2 : zN h1 = zN h
                      · rw [if_pos h2] at he ⊢
                        exact ih m _ _ _ _ _ _ _ _ hm' hd he
                      · rw [if_neg h2] at he; cases he
                    all_goals (cases he; done)
          · rw [if_neg hcon] at he; cases he
      | none =>
        rw [hc] at he
        try dsimp only at he ⊢
        cases hr : rtv k ins st with
        | some v => rw [hr] at he; exact he
        | none =>
          rw [hr] at he
          try dsimp only at he ⊢
          cases ins
          case athrow => exact he
          all_goals
            try dsimp only at he ⊢
            split at he
            · rename_i hx
              try rw [hx]
              exact ih m _ _ _ _ _ _ _ _ hm' hd he
            · cases he
def PW (d k i : Nat) (ls : List (Option Value)) (st : List Value) (h : Hp) (Q : Nat → Option Value → Hp → Prop) : Prop := ∃ (n t : Nat) (v : Option Value) (h' : Hp), ev n d k i ls st h = some (t, v, h') ∧ Q t v h'
/-- method k, called with a -/
def PR (d k : Nat) (a : List Value) (h : Hp) (Q : Nat → Option Value → Hp → Prop) : Prop := PW d k 0 (entL (gML k) a) [] h Q
theorem PW.mono {d k i : Nat} {ls : List (Option Value)} {st : List Value} {h : Hp} {Q Q' : Nat → Option Value → Hp → Prop} (hp : PW d k i ls st h Q) (hq : ∀ t v h', Q t v h' → Q' t v h') : PW d k i ls st h Q' := by
  obtain ⟨n, t, v, h', h1, h2⟩ := hp
  exact ⟨n, t, v, h', h1, hq _ _ _ h2⟩
theorem PW.deep {d d' k i : Nat} {ls : List (Option Value)} {st : List Value} {h : Hp} {Q : Nat → Option Value → Hp → Prop} (hp : PW d k i ls st h Q) (hd : d ≤ d') : PW d' k i ls st h Q := by
  obtain ⟨n, t, v, h', h1, h2⟩ := hp
  exact ⟨n, t, v, h', ev_mono n n d d' k i ls st h _ (Nat.le_refl n) hd h1, h2⟩
theorem PW.step {d k i i' : Nat} {ls ls' : List (Option Value)} {st st' : List Value} {h h' : Hp} {ins : Instr} {Q : Nat → Option Value → Hp → Prop} (hf : (gRes k)[i]? = some ins) (hc : cl ins st h = none) (hr : rtv k ins st = none) (hx : ex1 i ins ls st h = some (i', ls', st', h')) (kk : PW d k i' ls' st' h' Q) : PW d k i ls st h Q := by
  obtain ⟨n, t, v, h2, h3, h4⟩ := kk
  refine ⟨n + 1, t, v, h2, ?_, h4⟩
  rw [ev_s, hf]
  dsimp only
  rw [hc]
  dsimp only
  rw [hr]
  cases ins
  case athrow => cases hx
  all_goals (dsimp only; rw [hx]; exact h3)
theorem PW.ret {d k i : Nat} {ls : List (Option Value)} {st : List Value} {h : Hp} {ins : Instr} {v : Option Value} {Q : Nat → Option Value → Hp → Prop} (hf : (gRes k)[i]? = some ins) (hc : cl ins st h = none) (hr : rtv k ins st = some v) (hq : Q 0 v h) : PW d k i ls st h Q := by
  refine ⟨1, 0, v, h, ?_, hq⟩
  rw [ev_s, hf]
  dsimp only
  rw [hc]
  dsimp only
  rw [hr]
theorem PW.thr {d k i : Nat} {ls : List (Option Value)} {st : List Value} {h : Hp} {Q : Nat → Option Value → Hp → Prop} (hf : (gRes k)[i]? = some .athrow) (hq : Q 1 none (zThr h)) : PW d k i ls st h Q := by
  refine ⟨1, 1, none, zThr h, ?_, hq⟩
  rw [ev_s, hf]
  rfl
theorem PW.call {d k i y : Nat} {ls : List (Option Value)} {st a r : List Value} {h : Hp} {ins : Instr} {Q : Nat → Option Value → Hp → Prop} (hf : (gRes k)[i]? = some ins) (hc : cl ins st h = some (y, a, r)) (hcat : catS r ≤ 8) (hle : (eL a).length ≤ gML y)
    (hp : PR d y a h (fun t v h' => t = 0 ∧ ((zN h' = zN h ∧ oOK (zN h') v = true) ∨ fOK (zN h) ls r = true) ∧ PW (d + 1) k (i + 1) ls (v.toList ++ r) h' Q)) : PW (d + 1) k i ls st h Q := by
  obtain ⟨n, t, v, h', h1, rfl, h2, n2, t2, v2, h3, h4, h5⟩ := hp
  refine ⟨max n n2 + 1, t2, v2, h3, ?_, h5⟩
  rw [ev_s, hf]
  dsimp only
  rw [hc]
  dsimp only
  rw [if_pos ⟨hcat, hle⟩, ev_mono n (max n n2) d d y 0 _ _ _ _ (Nat.le_max_left _ _) (Nat.le_refl _) h1]
  show (if (zN h' = zN h ∧ oOK (zN h') v = true) ∨ fOK (zN h) ls r = true then ev (max n n2) (d + 1) k (i + 1) ls (v.toList ++ r) h' else none) = _
  rw [if_pos h2]
  exact ev_mono n2 (max n n2) (d + 1) (d + 1) k (i + 1) _ _ _ _ (Nat.le_max_right _ _) (Nat.le_refl _) h4
def cP : Jvm.ClassFile.Cond → Int32 → Int32 → Prop
  | .eq, x, y => x = y
  | .ne, x, y => ¬ x = y
  | .lt, x, y => x < y
  | .ge, x, y => y ≤ x
  | .gt, x, y => y < x
  | .le, x, y => x ≤ y
theorem cnd_t {c : Jvm.ClassFile.Cond} {x y : Int32} (h : cP c x y) : cnd c x y = true := by
  cases c <;> exact decide_eq_true h
theorem cnd_f {c : Jvm.ClassFile.Cond} {x y : Int32} (h : ¬ cP c x y) : cnd c x y = false := by
  cases c <;> exact decide_eq_false h
theorem dyn1 {i : Nat} {ls : List (Option Value)} {st : List Value} {h : Hp} : ex1 i (.invokedynamic 1) ls st h = xAb i ls st h := rfl
theorem dyn2 {i : Nat} {ls : List (Option Value)} {st : List Value} {h : Hp} : ex1 i (.invokedynamic 2) ls st h = xMx i ls st h := rfl
theorem dyn3 {i : Nat} {ls : List (Option Value)} {st : List Value} {h : Hp} : ex1 i (.invokedynamic 3) ls st h = xMn i ls st h := rfl
theorem dyn4 {i : Nat} {ls : List (Option Value)} {st : List Value} {h : Hp} : ex1 i (.invokedynamic 4) ls st h = xOb i ls st h := rfl
def viD (d k i : Nat) (J : Nat → List (Option Value) → List Value → Hp → Prop) (K : List (Option Value) → List Value → Hp → Prop) (ls : List (Option Value)) (st : List Value) (h : Hp) : Nat → Prop
  | 1 => match st with
    | .long x :: r => catS r ≤ 8 ∧ K ls (.long (if 0 < x then x else -x) :: r) h
    | _ => False
  | 2 => match st with
    | .int y :: .int x :: r => catS r ≤ 8 ∧ K ls (.int (if x < y then y else x) :: r) h
    | _ => False
  | 3 => match st with
    | .int y :: .int x :: r => catS r ≤ 8 ∧ K ls (.int (if y < x then y else x) :: r) h
    | _ => False
  | 4 => match st with
    | .ref _ :: r => catS r ≤ 8 ∧ K ls r h
    | _ => False
  | q => ∃ f : Fr, xDyn q i ls st h = some f ∧ J f.1 f.2.1 f.2.2.1 f.2.2.2
/-- what one instruction asks, and how it goes on -/
def vi (d k : Nat) (J : Nat → List (Option Value) → List Value → Hp → Prop) (K : List (Option Value) → List Value → Hp → Prop) (i : Nat) (ins : Instr) (ls : List (Option Value)) (st : List Value) (h : Hp) (Q : Nat → Option Value → Hp → Prop) : Prop := match ins with
  | .invokevirtual _ => PW d k i ls st h Q
  | .invokespecial _ => PW d k i ls st h Q
  | .invokestatic _ => PW d k i ls st h Q
  | .return_ => st = [] ∧ gRc k = 0 ∧ Q 0 none h
  | .ireturn => match st with
    | [.int x] => (gRc k = 1 ∨ gRc k = 2 ∧ (x = 0 ∨ x = 1)) ∧ Q 0 (some (.int x)) h
    | _ => False
  | .lreturn => match st with
    | [.long x] => gRc k = 3 ∧ Q 0 (some (.long x)) h
    | _ => False
  | .areturn => match st with
    | [.ref x] => gRc k = 4 ∧ Q 0 (some (.ref x)) h
    | _ => False
  | .athrow => Q 1 none (zThr h)
  | .if_icmp c t => match st with
    | .int y :: .int x :: r => (cP c x y → J t.toNat ls r h) ∧ (¬ cP c x y → K ls r h)
    | _ => False
  | .ifCond c t => match st with
    | .int x :: r => (cP c x 0 → J t.toNat ls r h) ∧ (¬ cP c x 0 → K ls r h)
    | _ => False
  | .goto t => J t.toNat ls st h
  | .iload n => match ls[n]? with
    | some (some (.int x)) => K ls (.int x :: st) h
    | _ => False
  | .lload n => match ls[n]? with
    | some (some (.long x)) => K ls (.long x :: st) h
    | _ => False
  | .aload n => match ls[n]? with
    | some (some (.ref x)) => K ls (.ref x :: st) h
    | _ => False
  | .istore n => match st with
    | .int x :: r => n < ls.length ∧ K (ps1 ls n (.int x)) r h
    | _ => False
  | .lstore n => match st with
    | .long x :: r => n + 1 < ls.length ∧ K (ps2 ls n (.long x)) r h
    | _ => False
  | .astore n => match st with
    | .ref x :: r => n < ls.length ∧ K (ps1 ls n (.ref x)) r h
    | _ => False
  | .iinc n c => match ls[n]? with
    | some (some (.int x)) => K (ps1 ls n (.int (x + Int32.ofInt c))) st h
    | _ => False
  | .iconst n => K ls (.int (Int32.ofInt n) :: st) h
  | .jsr_w n => K ls (.long (Int64.ofInt n) :: st) h
  | .getfield c => match st with
    | .ref a :: r => (zK h a = c / 1000 ∧ a < zN h) ∧ K ls (gv h a (c / 10 % 100) (c % 10) :: r) h
    | _ => False
  | .putfield c => match st with
    | v :: .ref a :: r => (zK h a = c / 1000 ∧ a < zN h) ∧ ∃ h', pv h a (c / 10 % 100) (c % 10) v = some h' ∧ K ls r h'
    | _ => False
  | .iaload => match st with
    | .int j :: .ref a :: r => (zK h a = 14 ∧ a < zN h ∧ inB j (zL h a) = true) ∧ K ls (.int (zI h a j.toNatClampNeg) :: r) h
    | _ => False
  | .laload => match st with
    | .int j :: .ref a :: r => (zK h a = 15 ∧ a < zN h ∧ inB j (zL h a) = true) ∧ K ls (.long (zJ h a j.toNatClampNeg) :: r) h
    | _ => False
  | .iastore => match st with
    | .int x :: .int j :: .ref a :: r => (zK h a = 14 ∧ a < zN h ∧ inB j (zL h a) = true) ∧ K ls r (zsI h a j.toNatClampNeg x)
    | _ => False
  | .lastore => match st with
    | .long x :: .int j :: .ref a :: r => (zK h a = 15 ∧ a < zN h ∧ inB j (zL h a) = true) ∧ K ls r (zsJ h a j.toNatClampNeg x)
    | _ => False
  | .arraylength => match st with
    | .ref a :: r => ((zK h a = 13 ∨ zK h a = 14 ∨ zK h a = 15 ∨ zK h a = 16 ∨ zK h a = 17) ∧ a < zN h) ∧ K ls (.int (Int32.ofNat (zL h a)) :: r) h
    | _ => False
  | .aaload => match st with
    | .int j :: .ref a :: r => (zK h a = 17 ∧ a < zN h ∧ inB j (zL h a) = true) ∧ K ls (va_rf (zR h a j.toNatClampNeg) :: r) h
    | _ => False
  | .idiv => match st with
    | .int y :: .int x :: r => ¬ y = 0 ∧ K ls (.int (x / y) :: r) h
    | _ => False
  | .irem => match st with
    | .int y :: .int x :: r => ¬ y = 0 ∧ K ls (.int (x % y) :: r) h
    | _ => False
  | .ldiv => match st with
    | .long y :: .long x :: r => ¬ y = 0 ∧ K ls (.long (x / y) :: r) h
    | _ => False
  | .lrem => match st with
    | .long y :: .long x :: r => ¬ y = 0 ∧ K ls (.long (x % y) :: r) h
    | _ => False
  | .iadd => match st with
    | .int y :: .int x :: r => K ls (.int (x + y) :: r) h
    | _ => False
  | .isub => match st with
    | .int y :: .int x :: r => K ls (.int (x - y) :: r) h
    | _ => False
  | .imul => match st with
    | .int y :: .int x :: r => K ls (.int (x * y) :: r) h
    | _ => False
  | .ladd => match st with
    | .long y :: .long x :: r => K ls (.long (x + y) :: r) h
    | _ => False
  | .lsub => match st with
    | .long y :: .long x :: r => K ls (.long (x - y) :: r) h
    | _ => False
  | .lmul => match st with
    | .long y :: .long x :: r => K ls (.long (x * y) :: r) h
    | _ => False
  | .lcmp => match st with
    | .long y :: .long x :: r => K ls (.int (lg_cmp x y) :: r) h
    | _ => False
  | .i2l => match st with
    | .int x :: r => K ls (.long x.toInt64 :: r) h
    | _ => False
  | .dup => match st with
    | v :: r => v.category = 1 ∧ K ls (v :: v :: r) h
    | _ => False
  | .dup2 => match st with
    | v :: w :: r => (v.category = 1 ∧ w.category = 1) ∧ K ls (v :: w :: v :: w :: r) h
    | _ => False
  | .ineg => match st with
    | .int x :: r => K ls (.int (-x) :: r) h
    | _ => False
  | .i2b => match st with
    | .int x :: r => K ls (.int x.toInt8.toInt32 :: r) h
    | _ => False
  | .l2i => match st with
    | .long x :: r => K ls (.int x.toInt32 :: r) h
    | _ => False
  | .lneg => match st with
    | .long x :: r => K ls (.long (-x) :: r) h
    | _ => False
  | .iand => match st with
    | .int y :: .int x :: r => K ls (.int (x &&& y) :: r) h
    | _ => False
  | .ior => match st with
    | .int y :: .int x :: r => K ls (.int (x ||| y) :: r) h
    | _ => False
  | .ixor => match st with
    | .int y :: .int x :: r => K ls (.int (x ^^^ y) :: r) h
    | _ => False
  | .ishl => match st with
    | .int y :: .int x :: r => K ls (.int (x <<< (y &&& 31)) :: r) h
    | _ => False
  | .ishr => match st with
    | .int y :: .int x :: r => K ls (.int (x >>> (y &&& 31)) :: r) h
    | _ => False
  | .iushr => match st with
    | .int y :: .int x :: r => K ls (.int ((x.toUInt32 >>> (y.toUInt32 &&& Int32.toUInt32 31)).toInt32) :: r) h
    | _ => False
  | .lor => match st with
    | .long y :: .long x :: r => K ls (.long (x ||| y) :: r) h
    | _ => False
  | .lshl => match st with
    | .int y :: .long x :: r => K ls (.long (x <<< (y.toInt64 &&& 63)) :: r) h
    | _ => False
  | .pop => match st with
    | v :: r => v.category = 1 ∧ K ls r h
    | _ => False
  | .baload => match st with
    | .int j :: .ref a :: r => ((zK h a = 13 ∨ zK h a = 16) ∧ a < zN h ∧ inB j (zL h a) = true) ∧ K ls (.int (zI h a j.toNatClampNeg) :: r) h
    | _ => False
  | .aastore => match st with
    | .ref b :: .int j :: .ref a :: r => (zK h a = 17 ∧ a < zN h ∧ inB j (zL h a) = true ∧ zK h b = 6 ∧ b < zN h) ∧ K ls r (zsR h a j.toNatClampNeg (some b))
    | _ => False
  | .new y => (y < 13 ∧ zN h < zSC ∧ fOK (zN h) ls st = true) ∧ K ls (.ref (zN h) :: st) (zNew h y 0 (gN y))
  | .newarray t => match st with
    | .int n :: r => (13 ≤ atk t ∧ 0 ≤ n ∧ n.toNatClampNeg * 8 ≤ 536870912 ∧ zN h < zSC ∧ fOK (zN h) ls r = true) ∧ K ls (.ref (zN h) :: r) (zNew h (atk t) n.toNatClampNeg n.toNatClampNeg)
    | _ => False
  | .anewarray y => match st with
    | .int n :: r => (13 ≤ y ∧ 0 ≤ n ∧ n.toNatClampNeg * 8 ≤ 536870912 ∧ zN h < zSC ∧ fOK (zN h) ls r = true) ∧ K ls (.ref (zN h) :: r) (zNew h y n.toNatClampNeg n.toNatClampNeg)
    | _ => False
  | .tableswitch d0 lo hi o => match st with
    | .int x :: r => J (swt d0 lo hi o x) ls r h
    | _ => False
  | .invokedynamic q => viD d k i J K ls st h q
  | ins => ∃ f : Fr, ex1 i ins ls st h = some f ∧ (cl ins st h = none ∧ rtv k ins st = none) ∧ J f.1 f.2.1 f.2.2.1 f.2.2.2
set_option maxRecDepth 100000 in
set_option maxHeartbeats 4000000 in
theorem vi_ok {d k i : Nat} {ls : List (Option Value)} {st : List Value} {h : Hp} {ins : Instr} {Q : Nat → Option Value → Hp → Prop} {J : Nat → List (Option Value) → List Value → Hp → Prop} {K : List (Option Value) → List Value → Hp → Prop} (hJ : ∀ i ls st h, J i ls st h → PW d k i ls st h Q) (hK : ∀ ls st h, K ls st h → PW d k (i + 1) ls st h Q) (hf : (gRes k)[i]? = some ins) (hv : vi d k J K i ins ls st h Q) : PW d k i ls st h Q := by
  cases ins
  case invokevirtual y => exact hv
  case invokespecial y => exact hv
  case invokestatic y => exact hv
  case return_ =>
    obtain ⟨h1, h2, h3⟩ := hv
    exact PW.ret hf rfl (if_pos ⟨h1, h2⟩) h3
  case ireturn =>
    dsimp only [vi] at hv
    split at hv
    · exact PW.ret hf rfl (if_pos hv.1) hv.2
    · exact hv.elim
  case lreturn =>
    dsimp only [vi] at hv
    split at hv
    · exact PW.ret hf rfl (if_pos hv.1) hv.2
    · exact hv.elim
  case areturn =>
    dsimp only [vi] at hv
    split at hv
    · exact PW.ret hf rfl (if_pos hv.1) hv.2
    · exact hv.elim
  case athrow => exact PW.thr hf hv
  case if_icmp c t =>
    dsimp only [vi] at hv
    split at hv
    · rename_i y x r
      by_cases hc : cP c x y
      · exact PW.step hf rfl rfl (by dsimp only [ex1, xBr2]; rw [cnd_t hc]; rfl) (hJ _ _ _ _ (hv.1 hc))
      · exact PW.step hf rfl rfl (by dsimp only [ex1, xBr2]; rw [cnd_f hc]; rfl) (hK _ _ _ (hv.2 hc))
    · exact hv.elim
  case ifCond c t =>
    dsimp only [vi] at hv
    split at hv
    · rename_i x r
      by_cases hc : cP c x 0
      · exact PW.step hf rfl rfl (by dsimp only [ex1, xBr1]; rw [cnd_t hc]; rfl) (hJ _ _ _ _ (hv.1 hc))
      · exact PW.step hf rfl rfl (by dsimp only [ex1, xBr1]; rw [cnd_f hc]; rfl) (hK _ _ _ (hv.2 hc))
    · exact hv.elim
  case goto t => exact PW.step hf rfl rfl rfl (hJ _ _ _ _ hv)
  case iconst n => exact PW.step hf rfl rfl rfl (hK _ _ _ hv)
  case jsr_w n => exact PW.step hf rfl rfl rfl (hK _ _ _ hv)
  case iload n =>
    dsimp only [vi] at hv
    split at hv
    · refine PW.step hf rfl rfl ?_ (hK _ _ _ hv)
      dsimp only [ex1, xLdI]
      try first | rfl | (simp only [*]; done)
    · exact hv.elim
  case lload n =>
    dsimp only [vi] at hv
    split at hv
    · refine PW.step hf rfl rfl ?_ (hK _ _ _ hv)
      dsimp only [ex1, xLdL]
      try first | rfl | (simp only [*]; done)
    · exact hv.elim
  case aload n =>
    dsimp only [vi] at hv
    split at hv
    · refine PW.step hf rfl rfl ?_ (hK _ _ _ hv)
      dsimp only [ex1, xLdA]
      try first | rfl | (simp only [*]; done)
    · exact hv.elim
  case iinc n c =>
    dsimp only [vi] at hv
    split at hv
    · refine PW.step hf rfl rfl ?_ (hK _ _ _ hv)
      dsimp only [ex1, xInc]
      try first | rfl | (simp only [*]; done)
    · exact hv.elim
  case iadd =>
    dsimp only [vi] at hv
    split at hv
    · refine PW.step hf rfl rfl ?_ (hK _ _ _ hv)
      dsimp only [ex1, xI2]
      try first | rfl | (simp only [*]; done)
    · exact hv.elim
  case isub =>
    dsimp only [vi] at hv
    split at hv
    · refine PW.step hf rfl rfl ?_ (hK _ _ _ hv)
      dsimp only [ex1, xI2]
      try first | rfl | (simp only [*]; done)
    · exact hv.elim
  case imul =>
    dsimp only [vi] at hv
    split at hv
    · refine PW.step hf rfl rfl ?_ (hK _ _ _ hv)
      dsimp only [ex1, xI2]
      try first | rfl | (simp only [*]; done)
    · exact hv.elim
  case ladd =>
    dsimp only [vi] at hv
    split at hv
    · refine PW.step hf rfl rfl ?_ (hK _ _ _ hv)
      dsimp only [ex1, xL2]
      try first | rfl | (simp only [*]; done)
    · exact hv.elim
  case lsub =>
    dsimp only [vi] at hv
    split at hv
    · refine PW.step hf rfl rfl ?_ (hK _ _ _ hv)
      dsimp only [ex1, xL2]
      try first | rfl | (simp only [*]; done)
    · exact hv.elim
  case lmul =>
    dsimp only [vi] at hv
    split at hv
    · refine PW.step hf rfl rfl ?_ (hK _ _ _ hv)
      dsimp only [ex1, xL2]
      try first | rfl | (simp only [*]; done)
    · exact hv.elim
  case lcmp =>
    dsimp only [vi] at hv
    split at hv
    · refine PW.step hf rfl rfl ?_ (hK _ _ _ hv)
      dsimp only [ex1, xCmp]
      try first | rfl | (simp only [*]; done)
    · exact hv.elim
  case i2l =>
    dsimp only [vi] at hv
    split at hv
    · refine PW.step hf rfl rfl ?_ (hK _ _ _ hv)
      dsimp only [ex1, xI1]
      try first | rfl | (simp only [*]; done)
    · exact hv.elim
  case istore n =>
    dsimp only [vi] at hv
    split at hv
    · refine PW.step hf rfl rfl ?_ (hK _ _ _ hv.2)
      dsimp only [ex1, xStI]
      first | exact if_pos hv.1 | exact if_neg hv.1 | (simp only [*]; done)
    · exact hv.elim
  case lstore n =>
    dsimp only [vi] at hv
    split at hv
    · refine PW.step hf rfl rfl ?_ (hK _ _ _ hv.2)
      dsimp only [ex1, xStL]
      first | exact if_pos hv.1 | exact if_neg hv.1 | (simp only [*]; done)
    · exact hv.elim
  case astore n =>
    dsimp only [vi] at hv
    split at hv
    · refine PW.step hf rfl rfl ?_ (hK _ _ _ hv.2)
      dsimp only [ex1, xStA]
      first | exact if_pos hv.1 | exact if_neg hv.1 | (simp only [*]; done)
    · exact hv.elim
  case getfield c =>
    dsimp only [vi] at hv
    split at hv
    · refine PW.step hf rfl rfl ?_ (hK _ _ _ hv.2)
      dsimp only [ex1, xGet]
      first | exact if_pos hv.1 | exact if_neg hv.1 | (simp only [*]; done)
    · exact hv.elim
  case iaload =>
    dsimp only [vi] at hv
    split at hv
    · refine PW.step hf rfl rfl ?_ (hK _ _ _ hv.2)
      dsimp only [ex1, xIal]
      first | exact if_pos hv.1 | exact if_neg hv.1 | (simp only [*]; done)
    · exact hv.elim
  case laload =>
    dsimp only [vi] at hv
    split at hv
    · refine PW.step hf rfl rfl ?_ (hK _ _ _ hv.2)
      dsimp only [ex1, xJal]
      first | exact if_pos hv.1 | exact if_neg hv.1 | (simp only [*]; done)
    · exact hv.elim
  case iastore =>
    dsimp only [vi] at hv
    split at hv
    · refine PW.step hf rfl rfl ?_ (hK _ _ _ hv.2)
      dsimp only [ex1, xIas]
      first | exact if_pos hv.1 | exact if_neg hv.1 | (simp only [*]; done)
    · exact hv.elim
  case lastore =>
    dsimp only [vi] at hv
    split at hv
    · refine PW.step hf rfl rfl ?_ (hK _ _ _ hv.2)
      dsimp only [ex1, xJas]
      first | exact if_pos hv.1 | exact if_neg hv.1 | (simp only [*]; done)
    · exact hv.elim
  case arraylength =>
    dsimp only [vi] at hv
    split at hv
    · refine PW.step hf rfl rfl ?_ (hK _ _ _ hv.2)
      dsimp only [ex1, xLen]
      first | exact if_pos hv.1 | exact if_neg hv.1 | (simp only [*]; done)
    · exact hv.elim
  case aaload =>
    dsimp only [vi] at hv
    split at hv
    · refine PW.step hf rfl rfl ?_ (hK _ _ _ hv.2)
      dsimp only [ex1, xAal]
      first | exact if_pos hv.1 | exact if_neg hv.1 | (simp only [*]; done)
    · exact hv.elim
  case idiv =>
    dsimp only [vi] at hv
    split at hv
    · refine PW.step hf rfl rfl ?_ (hK _ _ _ hv.2)
      dsimp only [ex1, xI2z]
      first | exact if_pos hv.1 | exact if_neg hv.1 | (simp only [*]; done)
    · exact hv.elim
  case irem =>
    dsimp only [vi] at hv
    split at hv
    · refine PW.step hf rfl rfl ?_ (hK _ _ _ hv.2)
      dsimp only [ex1, xI2z]
      first | exact if_pos hv.1 | exact if_neg hv.1 | (simp only [*]; done)
    · exact hv.elim
  case ldiv =>
    dsimp only [vi] at hv
    split at hv
    · refine PW.step hf rfl rfl ?_ (hK _ _ _ hv.2)
      dsimp only [ex1, xL2z]
      first | exact if_pos hv.1 | exact if_neg hv.1 | (simp only [*]; done)
    · exact hv.elim
  case lrem =>
    dsimp only [vi] at hv
    split at hv
    · refine PW.step hf rfl rfl ?_ (hK _ _ _ hv.2)
      dsimp only [ex1, xL2z]
      first | exact if_pos hv.1 | exact if_neg hv.1 | (simp only [*]; done)
    · exact hv.elim
  case dup =>
    dsimp only [vi] at hv
    split at hv
    · refine PW.step hf rfl rfl ?_ (hK _ _ _ hv.2)
      dsimp only [ex1, xDup]
      first | exact if_pos hv.1 | exact if_neg hv.1 | (simp only [*]; done)
    · exact hv.elim
  case dup2 =>
    dsimp only [vi] at hv
    split at hv
    · refine PW.step hf rfl rfl ?_ (hK _ _ _ hv.2)
      dsimp only [ex1, xDup2]
      first | exact if_pos hv.1 | exact if_neg hv.1 | (simp only [*]; done)
    · exact hv.elim
  case putfield c =>
    dsimp only [vi] at hv
    split at hv
    · obtain ⟨h1, h', h2, h3⟩ := hv
      refine PW.step hf rfl rfl ?_ (hK _ _ _ h3)
      dsimp only [ex1, xPut]
      rw [if_pos h1, h2]
    · exact hv.elim
  case ineg =>
    dsimp only [vi] at hv
    split at hv
    · refine PW.step hf rfl rfl ?_ (hK _ _ _ hv)
      dsimp only [ex1, xI1]
    · exact hv.elim
  case i2b =>
    dsimp only [vi] at hv
    split at hv
    · refine PW.step hf rfl rfl ?_ (hK _ _ _ hv)
      dsimp only [ex1, xI1]
    · exact hv.elim
  case l2i =>
    dsimp only [vi] at hv
    split at hv
    · refine PW.step hf rfl rfl ?_ (hK _ _ _ hv)
      dsimp only [ex1, xL1]
    · exact hv.elim
  case lneg =>
    dsimp only [vi] at hv
    split at hv
    · refine PW.step hf rfl rfl ?_ (hK _ _ _ hv)
      dsimp only [ex1, xL1]
    · exact hv.elim
  case iand =>
    dsimp only [vi] at hv
    split at hv
    · refine PW.step hf rfl rfl ?_ (hK _ _ _ hv)
      dsimp only [ex1, xI2]
    · exact hv.elim
  case ior =>
    dsimp only [vi] at hv
    split at hv
    · refine PW.step hf rfl rfl ?_ (hK _ _ _ hv)
      dsimp only [ex1, xI2]
    · exact hv.elim
  case ixor =>
    dsimp only [vi] at hv
    split at hv
    · refine PW.step hf rfl rfl ?_ (hK _ _ _ hv)
      dsimp only [ex1, xI2]
    · exact hv.elim
  case ishl =>
    dsimp only [vi] at hv
    split at hv
    · refine PW.step hf rfl rfl ?_ (hK _ _ _ hv)
      dsimp only [ex1, xI2]
    · exact hv.elim
  case ishr =>
    dsimp only [vi] at hv
    split at hv
    · refine PW.step hf rfl rfl ?_ (hK _ _ _ hv)
      dsimp only [ex1, xI2]
    · exact hv.elim
  case iushr =>
    dsimp only [vi] at hv
    split at hv
    · refine PW.step hf rfl rfl ?_ (hK _ _ _ hv)
      dsimp only [ex1, xI2]
    · exact hv.elim
  case lor =>
    dsimp only [vi] at hv
    split at hv
    · refine PW.step hf rfl rfl ?_ (hK _ _ _ hv)
      dsimp only [ex1, xL2]
    · exact hv.elim
  case lshl =>
    dsimp only [vi] at hv
    split at hv
    · refine PW.step hf rfl rfl ?_ (hK _ _ _ hv)
      dsimp only [ex1, xLsh]
    · exact hv.elim
  case pop =>
    dsimp only [vi] at hv
    split at hv
    · refine PW.step hf rfl rfl ?_ (hK _ _ _ hv.2)
      dsimp only [ex1, xPop]
      exact if_pos hv.1
    · exact hv.elim
  case baload =>
    dsimp only [vi] at hv
    split at hv
    · refine PW.step hf rfl rfl ?_ (hK _ _ _ hv.2)
      dsimp only [ex1, xBal]
      exact if_pos hv.1
    · exact hv.elim
  case aastore =>
    dsimp only [vi] at hv
    split at hv
    · refine PW.step hf rfl rfl ?_ (hK _ _ _ hv.2)
      dsimp only [ex1, xAas]
      exact if_pos hv.1
    · exact hv.elim
  case newarray t =>
    dsimp only [vi] at hv
    split at hv
    · refine PW.step hf rfl rfl ?_ (hK _ _ _ hv.2)
      dsimp only [ex1, xNwa]
      exact if_pos hv.1
    · exact hv.elim
  case anewarray y =>
    dsimp only [vi] at hv
    split at hv
    · refine PW.step hf rfl rfl ?_ (hK _ _ _ hv.2)
      dsimp only [ex1, xNwa]
      exact if_pos hv.1
    · exact hv.elim
  case new y =>
    dsimp only [vi] at hv
    refine PW.step hf rfl rfl ?_ (hK _ _ _ hv.2)
    dsimp only [ex1, xNew]
    exact if_pos hv.1
  case tableswitch d0 lo hi o =>
    dsimp only [vi] at hv
    split at hv
    · exact PW.step hf rfl rfl rfl (hJ _ _ _ _ hv)
    · exact hv.elim
  case invokedynamic q =>
    have hv : viD d k i J K ls st h q := hv
    unfold viD at hv
    split at hv
    · split at hv
      · refine PW.step hf rfl rfl ?_ (hK _ _ _ hv.2)
        rw [dyn1]
        exact if_pos hv.1
      · exact hv.elim
    · split at hv
      · refine PW.step hf rfl rfl ?_ (hK _ _ _ hv.2)
        rw [dyn2]
        exact if_pos hv.1
      · exact hv.elim
    · split at hv
      · refine PW.step hf rfl rfl ?_ (hK _ _ _ hv.2)
        rw [dyn3]
        exact if_pos hv.1
      · exact hv.elim
    · split at hv
      · refine PW.step hf rfl rfl ?_ (hK _ _ _ hv.2)
        rw [dyn4]
        exact if_pos hv.1
      · exact hv.elim
    · obtain ⟨f, h1, h4⟩ := hv
      exact PW.step hf rfl rfl h1 (hJ _ _ _ _ h4)
  all_goals
    obtain ⟨f, h1, ⟨h2, h3⟩, h4⟩ := hv
    exact PW.step hf h2 h3 h1 (hJ _ _ _ _ h4)
def vs (d k : Nat) (Q : Nat → Option Value → Hp → Prop) : List Instr → Nat → List (Option Value) → List Value → Hp → Prop
  | [], i, ls, st, h => PW d k i ls st h Q
  | ins :: p, i, ls, st, h => vi d k (fun j ls st h => PW d k j ls st h Q) (fun ls st h => vs d k Q p (i + 1) ls st h) i ins ls st h Q
theorem vs_ok0 {d k : Nat} {Q : Nat → Option Value → Hp → Prop} : ∀ (p : List Instr) (i : Nat) (ls : List (Option Value)) (st : List Value) (h : Hp), (∀ j ins, p[j]? = some ins → (gRes k)[i + j]? = some ins) → vs d k Q p i ls st h → PW d k i ls st h Q
  | [], i, ls, st, h, _, hv => hv
  | ins :: p, i, ls, st, h, hp, hv => vi_ok (fun _ _ _ _ z => z) (fun ls st h z => vs_ok0 p (i + 1) ls st h (fun j ins' hj => by
      have := hp (j + 1) ins' (by simpa using hj)
      rwa [show i + (j + 1) = i + 1 + j by omega] at this) z) (by simpa using hp 0 ins rfl) hv
/-- n instructions from i on -/
theorem vs_ok {d k : Nat} {Q : Nat → Option Value → Hp → Prop} (n : Nat) {i : Nat} {ls : List (Option Value)} {st : List Value} {h : Hp} (hv : vs d k Q (((gRes k).drop i).take n) i ls st h) : PW d k i ls st h Q := by
  refine vs_ok0 _ i ls st h (fun j ins hj => ?_) hv
  rw [List.getElem?_take] at hj
  split at hj
  · rw [List.getElem?_drop] at hj
    exact hj
  · cases hj
theorem vs_iadd {d k i : Nat} {Q : Nat → Option Value → Hp → Prop} {p : List Instr} {ls : List (Option Value)} {r : List Value} {h : Hp} {x y : Int32} : vs d k Q (.iadd :: p) i ls (.int y :: .int x :: r) h = vs d k Q p (i + 1) ls (.int (x + y) :: r) h := rfl
theorem vs_isub {d k i : Nat} {Q : Nat → Option Value → Hp → Prop} {p : List Instr} {ls : List (Option Value)} {r : List Value} {h : Hp} {x y : Int32} : vs d k Q (.isub :: p) i ls (.int y :: .int x :: r) h = vs d k Q p (i + 1) ls (.int (x - y) :: r) h := rfl
theorem vs_imul {d k i : Nat} {Q : Nat → Option Value → Hp → Prop} {p : List Instr} {ls : List (Option Value)} {r : List Value} {h : Hp} {x y : Int32} : vs d k Q (.imul :: p) i ls (.int y :: .int x :: r) h = vs d k Q p (i + 1) ls (.int (x * y) :: r) h := rfl
theorem vs_ladd {d k i : Nat} {Q : Nat → Option Value → Hp → Prop} {p : List Instr} {ls : List (Option Value)} {r : List Value} {h : Hp} {x y : Int64} : vs d k Q (.ladd :: p) i ls (.long y :: .long x :: r) h = vs d k Q p (i + 1) ls (.long (x + y) :: r) h := rfl
theorem vs_lsub {d k i : Nat} {Q : Nat → Option Value → Hp → Prop} {p : List Instr} {ls : List (Option Value)} {r : List Value} {h : Hp} {x y : Int64} : vs d k Q (.lsub :: p) i ls (.long y :: .long x :: r) h = vs d k Q p (i + 1) ls (.long (x - y) :: r) h := rfl
theorem vs_lmul {d k i : Nat} {Q : Nat → Option Value → Hp → Prop} {p : List Instr} {ls : List (Option Value)} {r : List Value} {h : Hp} {x y : Int64} : vs d k Q (.lmul :: p) i ls (.long y :: .long x :: r) h = vs d k Q p (i + 1) ls (.long (x * y) :: r) h := rfl
theorem vs_lcmp {d k i : Nat} {Q : Nat → Option Value → Hp → Prop} {p : List Instr} {ls : List (Option Value)} {r : List Value} {h : Hp} {x y : Int64} : vs d k Q (.lcmp :: p) i ls (.long y :: .long x :: r) h = vs d k Q p (i + 1) ls (.int (lg_cmp x y) :: r) h := rfl
theorem vs_i2l {d k i : Nat} {Q : Nat → Option Value → Hp → Prop} {p : List Instr} {ls : List (Option Value)} {r : List Value} {h : Hp} {x : Int32} : vs d k Q (.i2l :: p) i ls (.int x :: r) h = vs d k Q p (i + 1) ls (.long x.toInt64 :: r) h := rfl
theorem vs_idiv {d k i : Nat} {Q : Nat → Option Value → Hp → Prop} {p : List Instr} {ls : List (Option Value)} {r : List Value} {h : Hp} {x y : Int32} : vs d k Q (.idiv :: p) i ls (.int y :: .int x :: r) h = (¬ y = 0 ∧ vs d k Q p (i + 1) ls (.int (x / y) :: r) h) := rfl
theorem vs_irem {d k i : Nat} {Q : Nat → Option Value → Hp → Prop} {p : List Instr} {ls : List (Option Value)} {r : List Value} {h : Hp} {x y : Int32} : vs d k Q (.irem :: p) i ls (.int y :: .int x :: r) h = (¬ y = 0 ∧ vs d k Q p (i + 1) ls (.int (x % y) :: r) h) := rfl
theorem vs_ldiv {d k i : Nat} {Q : Nat → Option Value → Hp → Prop} {p : List Instr} {ls : List (Option Value)} {r : List Value} {h : Hp} {x y : Int64} : vs d k Q (.ldiv :: p) i ls (.long y :: .long x :: r) h = (¬ y = 0 ∧ vs d k Q p (i + 1) ls (.long (x / y) :: r) h) := rfl
theorem vs_lrem {d k i : Nat} {Q : Nat → Option Value → Hp → Prop} {p : List Instr} {ls : List (Option Value)} {r : List Value} {h : Hp} {x y : Int64} : vs d k Q (.lrem :: p) i ls (.long y :: .long x :: r) h = (¬ y = 0 ∧ vs d k Q p (i + 1) ls (.long (x % y) :: r) h) := rfl
theorem vs_iconst {d k i : Nat} {Q : Nat → Option Value → Hp → Prop} {p : List Instr} {ls : List (Option Value)} {st : List Value} {h : Hp} {n : Int} : vs d k Q (.iconst n :: p) i ls st h = vs d k Q p (i + 1) ls (.int (Int32.ofInt n) :: st) h := rfl
theorem vs_jsr_w {d k i : Nat} {Q : Nat → Option Value → Hp → Prop} {p : List Instr} {ls : List (Option Value)} {st : List Value} {h : Hp} {n : Int} : vs d k Q (.jsr_w n :: p) i ls st h = vs d k Q p (i + 1) ls (.long (Int64.ofInt n) :: st) h := rfl
theorem vs_goto {d k i : Nat} {Q : Nat → Option Value → Hp → Prop} {p : List Instr} {ls : List (Option Value)} {st : List Value} {h : Hp} {t : Int} : vs d k Q (.goto t :: p) i ls st h = PW d k t.toNat ls st h Q := rfl
theorem vs_if_icmp {d k i : Nat} {Q : Nat → Option Value → Hp → Prop} {p : List Instr} {ls : List (Option Value)} {r : List Value} {h : Hp} {c : Jvm.ClassFile.Cond} {t : Int} {x y : Int32} : vs d k Q (.if_icmp c t :: p) i ls (.int y :: .int x :: r) h = ((cP c x y → PW d k t.toNat ls r h Q) ∧ (¬ cP c x y → vs d k Q p (i + 1) ls r h)) := rfl
theorem vs_ifCond {d k i : Nat} {Q : Nat → Option Value → Hp → Prop} {p : List Instr} {ls : List (Option Value)} {r : List Value} {h : Hp} {c : Jvm.ClassFile.Cond} {t : Int} {x : Int32} : vs d k Q (.ifCond c t :: p) i ls (.int x :: r) h = ((cP c x 0 → PW d k t.toNat ls r h Q) ∧ (¬ cP c x 0 → vs d k Q p (i + 1) ls r h)) := rfl
theorem vs_getfield {d k i : Nat} {Q : Nat → Option Value → Hp → Prop} {p : List Instr} {ls : List (Option Value)} {r : List Value} {h : Hp} {c a : Nat} : vs d k Q (.getfield c :: p) i ls (.ref a :: r) h = ((zK h a = c / 1000 ∧ a < zN h) ∧ vs d k Q p (i + 1) ls (gv h a (c / 10 % 100) (c % 10) :: r) h) := rfl
theorem vs_putfield {d k i : Nat} {Q : Nat → Option Value → Hp → Prop} {p : List Instr} {ls : List (Option Value)} {r : List Value} {h : Hp} {c a : Nat} {v : Value} : vs d k Q (.putfield c :: p) i ls (v :: .ref a :: r) h = ((zK h a = c / 1000 ∧ a < zN h) ∧ ∃ h', pv h a (c / 10 % 100) (c % 10) v = some h' ∧ vs d k Q p (i + 1) ls r h') := rfl
theorem vs_iaload {d k i : Nat} {Q : Nat → Option Value → Hp → Prop} {p : List Instr} {ls : List (Option Value)} {r : List Value} {h : Hp} {a : Nat} {j : Int32} : vs d k Q (.iaload :: p) i ls (.int j :: .ref a :: r) h = ((zK h a = 14 ∧ a < zN h ∧ inB j (zL h a) = true) ∧ vs d k Q p (i + 1) ls (.int (zI h a j.toNatClampNeg) :: r) h) := rfl
theorem vs_laload {d k i : Nat} {Q : Nat → Option Value → Hp → Prop} {p : List Instr} {ls : List (Option Value)} {r : List Value} {h : Hp} {a : Nat} {j : Int32} : vs d k Q (.laload :: p) i ls (.int j :: .ref a :: r) h = ((zK h a = 15 ∧ a < zN h ∧ inB j (zL h a) = true) ∧ vs d k Q p (i + 1) ls (.long (zJ h a j.toNatClampNeg) :: r) h) := rfl
theorem vs_aaload {d k i : Nat} {Q : Nat → Option Value → Hp → Prop} {p : List Instr} {ls : List (Option Value)} {r : List Value} {h : Hp} {a : Nat} {j : Int32} : vs d k Q (.aaload :: p) i ls (.int j :: .ref a :: r) h = ((zK h a = 17 ∧ a < zN h ∧ inB j (zL h a) = true) ∧ vs d k Q p (i + 1) ls (va_rf (zR h a j.toNatClampNeg) :: r) h) := rfl
theorem vs_iastore {d k i : Nat} {Q : Nat → Option Value → Hp → Prop} {p : List Instr} {ls : List (Option Value)} {r : List Value} {h : Hp} {a : Nat} {j x : Int32} : vs d k Q (.iastore :: p) i ls (.int x :: .int j :: .ref a :: r) h = ((zK h a = 14 ∧ a < zN h ∧ inB j (zL h a) = true) ∧ vs d k Q p (i + 1) ls r (zsI h a j.toNatClampNeg x)) := rfl
theorem vs_lastore {d k i : Nat} {Q : Nat → Option Value → Hp → Prop} {p : List Instr} {ls : List (Option Value)} {r : List Value} {h : Hp} {a : Nat} {j : Int32} {x : Int64} : vs d k Q (.lastore :: p) i ls (.long x :: .int j :: .ref a :: r) h = ((zK h a = 15 ∧ a < zN h ∧ inB j (zL h a) = true) ∧ vs d k Q p (i + 1) ls r (zsJ h a j.toNatClampNeg x)) := rfl
theorem vs_arraylength {d k i : Nat} {Q : Nat → Option Value → Hp → Prop} {p : List Instr} {ls : List (Option Value)} {r : List Value} {h : Hp} {a : Nat} : vs d k Q (.arraylength :: p) i ls (.ref a :: r) h = (((zK h a = 13 ∨ zK h a = 14 ∨ zK h a = 15 ∨ zK h a = 16 ∨ zK h a = 17) ∧ a < zN h) ∧ vs d k Q p (i + 1) ls (.int (Int32.ofNat (zL h a)) :: r) h) := rfl
theorem vs_return_ {d k i : Nat} {Q : Nat → Option Value → Hp → Prop} {p : List Instr} {ls : List (Option Value)} {st : List Value} {h : Hp} : vs d k Q (.return_ :: p) i ls st h = (st = [] ∧ gRc k = 0 ∧ Q 0 none h) := rfl
theorem vs_ireturn {d k i : Nat} {Q : Nat → Option Value → Hp → Prop} {p : List Instr} {ls : List (Option Value)} {h : Hp} {x : Int32} : vs d k Q (.ireturn :: p) i ls [.int x] h = ((gRc k = 1 ∨ gRc k = 2 ∧ (x = 0 ∨ x = 1)) ∧ Q 0 (some (.int x)) h) := rfl
theorem vs_lreturn {d k i : Nat} {Q : Nat → Option Value → Hp → Prop} {p : List Instr} {ls : List (Option Value)} {h : Hp} {x : Int64} : vs d k Q (.lreturn :: p) i ls [.long x] h = (gRc k = 3 ∧ Q 0 (some (.long x)) h) := rfl
theorem vs_areturn {d k i : Nat} {Q : Nat → Option Value → Hp → Prop} {p : List Instr} {ls : List (Option Value)} {h : Hp} {x : Nat} : vs d k Q (.areturn :: p) i ls [.ref x] h = (gRc k = 4 ∧ Q 0 (some (.ref x)) h) := rfl
theorem vs_athrow {d k i : Nat} {Q : Nat → Option Value → Hp → Prop} {p : List Instr} {ls : List (Option Value)} {st : List Value} {h : Hp} : vs d k Q (.athrow :: p) i ls st h = Q 1 none (zThr h) := rfl
theorem vs_iv {d k i : Nat} {Q : Nat → Option Value → Hp → Prop} {p : List Instr} {ls : List (Option Value)} {st : List Value} {h : Hp} {y : Nat} : vs d k Q (.invokevirtual y :: p) i ls st h = PW d k i ls st h Q := rfl
theorem vs_is {d k i : Nat} {Q : Nat → Option Value → Hp → Prop} {p : List Instr} {ls : List (Option Value)} {st : List Value} {h : Hp} {y : Nat} : vs d k Q (.invokespecial y :: p) i ls st h = PW d k i ls st h Q := rfl
theorem vs_ist {d k i : Nat} {Q : Nat → Option Value → Hp → Prop} {p : List Instr} {ls : List (Option Value)} {st : List Value} {h : Hp} {y : Nat} : vs d k Q (.invokestatic y :: p) i ls st h = PW d k i ls st h Q := rfl
theorem vs_dupi {d k i : Nat} {Q : Nat → Option Value → Hp → Prop} {p : List Instr} {ls : List (Option Value)} {r : List Value} {h : Hp} {x : Int32} : vs d k Q (.dup :: p) i ls (.int x :: r) h = ((1 : Nat) = 1 ∧ vs d k Q p (i + 1) ls (.int x :: .int x :: r) h) := rfl
theorem vs_dupr {d k i : Nat} {Q : Nat → Option Value → Hp → Prop} {p : List Instr} {ls : List (Option Value)} {r : List Value} {h : Hp} {x : Nat} : vs d k Q (.dup :: p) i ls (.ref x :: r) h = ((1 : Nat) = 1 ∧ vs d k Q p (i + 1) ls (.ref x :: .ref x :: r) h) := rfl
theorem vs_dup2 {d k i : Nat} {Q : Nat → Option Value → Hp → Prop} {p : List Instr} {ls : List (Option Value)} {r : List Value} {h : Hp} {x : Int32} {y : Nat} : vs d k Q (.dup2 :: p) i ls (.int x :: .ref y :: r) h = (((1 : Nat) = 1 ∧ (1 : Nat) = 1) ∧ vs d k Q p (i + 1) ls (.int x :: .ref y :: .int x :: .ref y :: r) h) := rfl
theorem vs_iload0 {d k i : Nat} {Q : Nat → Option Value → Hp → Prop} {p : List Instr} {ls : List (Option Value)} {st : List Value} {h : Hp} {x : Int32} : vs d k Q (.iload 0 :: p) i (some (.int x) :: ls) st h = vs d k Q p (i + 1) (some (.int x) :: ls) (.int x :: st) h := rfl
theorem vs_lload0 {d k i : Nat} {Q : Nat → Option Value → Hp → Prop} {p : List Instr} {ls : List (Option Value)} {st : List Value} {h : Hp} {x : Int64} : vs d k Q (.lload 0 :: p) i (some (.long x) :: ls) st h = vs d k Q p (i + 1) (some (.long x) :: ls) (.long x :: st) h := rfl
theorem vs_aload0 {d k i : Nat} {Q : Nat → Option Value → Hp → Prop} {p : List Instr} {ls : List (Option Value)} {st : List Value} {h : Hp} {x : Nat} : vs d k Q (.aload 0 :: p) i (some (.ref x) :: ls) st h = vs d k Q p (i + 1) (some (.ref x) :: ls) (.ref x :: st) h := rfl
theorem vs_istore0z {d k i : Nat} {Q : Nat → Option Value → Hp → Prop} {p : List Instr} {ls : List (Option Value)} {r : List Value} {h : Hp} {o : Option Value} {x : Int32} : vs d k Q (.istore 0 :: p) i (o :: ls) (.int x :: r) h = vs d k Q p (i + 1) (some (.int x) :: ls) r h := by
  show (0 < _ ∧ _) = _
  simp [ps1, ps0, Value.category]
theorem vs_astore0z {d k i : Nat} {Q : Nat → Option Value → Hp → Prop} {p : List Instr} {ls : List (Option Value)} {r : List Value} {h : Hp} {o : Option Value} {x : Nat} : vs d k Q (.astore 0 :: p) i (o :: ls) (.ref x :: r) h = vs d k Q p (i + 1) (some (.ref x) :: ls) r h := by
  show (0 < _ ∧ _) = _
  simp [ps1, ps0, Value.category]
theorem vs_lstore0z {d k i : Nat} {Q : Nat → Option Value → Hp → Prop} {p : List Instr} {ls : List (Option Value)} {r : List Value} {h : Hp} {o o9 : Option Value} {x : Int64} : vs d k Q (.lstore 0 :: p) i (o :: o9 :: ls) (.long x :: r) h = vs d k Q p (i + 1) (some (.long x) :: none :: ls) r h := by
  show (1 < _ ∧ _) = _
  simp [ps2, ps0, Value.category]
theorem vs_iinc0z {d k i : Nat} {Q : Nat → Option Value → Hp → Prop} {p : List Instr} {ls : List (Option Value)} {st : List Value} {h : Hp} {c : Int} {x : Int32} : vs d k Q (.iinc 0 c :: p) i (some (.int x) :: ls) st h = vs d k Q p (i + 1) (some (.int (x + Int32.ofInt c)) :: ls) st h := by
  show vs d k Q p (i + 1) _ st h = _
  simp [ps1, ps0, Value.category]
theorem vs_iload1 {d k i : Nat} {Q : Nat → Option Value → Hp → Prop} {p : List Instr} {ls : List (Option Value)} {st : List Value} {h : Hp} {o0 : Option Value} {x : Int32} : vs d k Q (.iload 1 :: p) i (o0 :: some (.int x) :: ls) st h = vs d k Q p (i + 1) (o0 :: some (.int x) :: ls) (.int x :: st) h := rfl
theorem vs_lload1 {d k i : Nat} {Q : Nat → Option Value → Hp → Prop} {p : List Instr} {ls : List (Option Value)} {st : List Value} {h : Hp} {o0 : Option Value} {x : Int64} : vs d k Q (.lload 1 :: p) i (o0 :: some (.long x) :: ls) st h = vs d k Q p (i + 1) (o0 :: some (.long x) :: ls) (.long x :: st) h := rfl
theorem vs_aload1 {d k i : Nat} {Q : Nat → Option Value → Hp → Prop} {p : List Instr} {ls : List (Option Value)} {st : List Value} {h : Hp} {o0 : Option Value} {x : Nat} : vs d k Q (.aload 1 :: p) i (o0 :: some (.ref x) :: ls) st h = vs d k Q p (i + 1) (o0 :: some (.ref x) :: ls) (.ref x :: st) h := rfl
theorem vs_istore1n {d k i : Nat} {Q : Nat → Option Value → Hp → Prop} {p : List Instr} {ls : List (Option Value)} {r : List Value} {h : Hp} {o : Option Value} {x : Int32} : vs d k Q (.istore 1 :: p) i (none :: o :: ls) (.int x :: r) h = vs d k Q p (i + 1) (none :: some (.int x) :: ls) r h := by
  show (1 < _ ∧ _) = _
  simp [ps1, ps0, Value.category]
theorem vs_astore1n {d k i : Nat} {Q : Nat → Option Value → Hp → Prop} {p : List Instr} {ls : List (Option Value)} {r : List Value} {h : Hp} {o : Option Value} {x : Nat} : vs d k Q (.astore 1 :: p) i (none :: o :: ls) (.ref x :: r) h = vs d k Q p (i + 1) (none :: some (.ref x) :: ls) r h := by
  show (1 < _ ∧ _) = _
  simp [ps1, ps0, Value.category]
theorem vs_lstore1n {d k i : Nat} {Q : Nat → Option Value → Hp → Prop} {p : List Instr} {ls : List (Option Value)} {r : List Value} {h : Hp} {o o9 : Option Value} {x : Int64} : vs d k Q (.lstore 1 :: p) i (none :: o :: o9 :: ls) (.long x :: r) h = vs d k Q p (i + 1) (none :: some (.long x) :: none :: ls) r h := by
  show (2 < _ ∧ _) = _
  simp [ps2, ps0, Value.category]
theorem vs_iinc1n {d k i : Nat} {Q : Nat → Option Value → Hp → Prop} {p : List Instr} {ls : List (Option Value)} {st : List Value} {h : Hp} {c : Int} {x : Int32} : vs d k Q (.iinc 1 c :: p) i (none :: some (.int x) :: ls) st h = vs d k Q p (i + 1) (none :: some (.int (x + Int32.ofInt c)) :: ls) st h := by
  show vs d k Q p (i + 1) _ st h = _
  simp [ps1, ps0, Value.category]
theorem vs_istore1i {d k i : Nat} {Q : Nat → Option Value → Hp → Prop} {p : List Instr} {ls : List (Option Value)} {r : List Value} {h : Hp} {w : Int32} {o : Option Value} {x : Int32} : vs d k Q (.istore 1 :: p) i (some (.int w) :: o :: ls) (.int x :: r) h = vs d k Q p (i + 1) (some (.int w) :: some (.int x) :: ls) r h := by
  show (1 < _ ∧ _) = _
  simp [ps1, ps0, Value.category]
theorem vs_astore1i {d k i : Nat} {Q : Nat → Option Value → Hp → Prop} {p : List Instr} {ls : List (Option Value)} {r : List Value} {h : Hp} {w : Int32} {o : Option Value} {x : Nat} : vs d k Q (.astore 1 :: p) i (some (.int w) :: o :: ls) (.ref x :: r) h = vs d k Q p (i + 1) (some (.int w) :: some (.ref x) :: ls) r h := by
  show (1 < _ ∧ _) = _
  simp [ps1, ps0, Value.category]
theorem vs_lstore1i {d k i : Nat} {Q : Nat → Option Value → Hp → Prop} {p : List Instr} {ls : List (Option Value)} {r : List Value} {h : Hp} {w : Int32} {o o9 : Option Value} {x : Int64} : vs d k Q (.lstore 1 :: p) i (some (.int w) :: o :: o9 :: ls) (.long x :: r) h = vs d k Q p (i + 1) (some (.int w) :: some (.long x) :: none :: ls) r h := by
  show (2 < _ ∧ _) = _
  simp [ps2, ps0, Value.category]
theorem vs_iinc1i {d k i : Nat} {Q : Nat → Option Value → Hp → Prop} {p : List Instr} {ls : List (Option Value)} {st : List Value} {h : Hp} {w : Int32} {c : Int} {x : Int32} : vs d k Q (.iinc 1 c :: p) i (some (.int w) :: some (.int x) :: ls) st h = vs d k Q p (i + 1) (some (.int w) :: some (.int (x + Int32.ofInt c)) :: ls) st h := by
  show vs d k Q p (i + 1) _ st h = _
  simp [ps1, ps0, Value.category]
theorem vs_istore1r {d k i : Nat} {Q : Nat → Option Value → Hp → Prop} {p : List Instr} {ls : List (Option Value)} {r : List Value} {h : Hp} {w : Nat} {o : Option Value} {x : Int32} : vs d k Q (.istore 1 :: p) i (some (.ref w) :: o :: ls) (.int x :: r) h = vs d k Q p (i + 1) (some (.ref w) :: some (.int x) :: ls) r h := by
  show (1 < _ ∧ _) = _
  simp [ps1, ps0, Value.category]
theorem vs_astore1r {d k i : Nat} {Q : Nat → Option Value → Hp → Prop} {p : List Instr} {ls : List (Option Value)} {r : List Value} {h : Hp} {w : Nat} {o : Option Value} {x : Nat} : vs d k Q (.astore 1 :: p) i (some (.ref w) :: o :: ls) (.ref x :: r) h = vs d k Q p (i + 1) (some (.ref w) :: some (.ref x) :: ls) r h := by
  show (1 < _ ∧ _) = _
  simp [ps1, ps0, Value.category]
theorem vs_lstore1r {d k i : Nat} {Q : Nat → Option Value → Hp → Prop} {p : List Instr} {ls : List (Option Value)} {r : List Value} {h : Hp} {w : Nat} {o o9 : Option Value} {x : Int64} : vs d k Q (.lstore 1 :: p) i (some (.ref w) :: o :: o9 :: ls) (.long x :: r) h = vs d k Q p (i + 1) (some (.ref w) :: some (.long x) :: none :: ls) r h := by
  show (2 < _ ∧ _) = _
  simp [ps2, ps0, Value.category]
theorem vs_iinc1r {d k i : Nat} {Q : Nat → Option Value → Hp → Prop} {p : List Instr} {ls : List (Option Value)} {st : List Value} {h : Hp} {w : Nat} {c : Int} {x : Int32} : vs d k Q (.iinc 1 c :: p) i (some (.ref w) :: some (.int x) :: ls) st h = vs d k Q p (i + 1) (some (.ref w) :: some (.int (x + Int32.ofInt c)) :: ls) st h := by
  show vs d k Q p (i + 1) _ st h = _
  simp [ps1, ps0, Value.category]
theorem vs_istore1l {d k i : Nat} {Q : Nat → Option Value → Hp → Prop} {p : List Instr} {ls : List (Option Value)} {r : List Value} {h : Hp} {w : Int64} {o : Option Value} {x : Int32} : vs d k Q (.istore 1 :: p) i (some (.long w) :: o :: ls) (.int x :: r) h = vs d k Q p (i + 1) (none :: some (.int x) :: ls) r h := by
  show (1 < _ ∧ _) = _
  simp [ps1, ps0, Value.category]
theorem vs_astore1l {d k i : Nat} {Q : Nat → Option Value → Hp → Prop} {p : List Instr} {ls : List (Option Value)} {r : List Value} {h : Hp} {w : Int64} {o : Option Value} {x : Nat} : vs d k Q (.astore 1 :: p) i (some (.long w) :: o :: ls) (.ref x :: r) h = vs d k Q p (i + 1) (none :: some (.ref x) :: ls) r h := by
  show (1 < _ ∧ _) = _
  simp [ps1, ps0, Value.category]
theorem vs_lstore1l {d k i : Nat} {Q : Nat → Option Value → Hp → Prop} {p : List Instr} {ls : List (Option Value)} {r : List Value} {h : Hp} {w : Int64} {o o9 : Option Value} {x : Int64} : vs d k Q (.lstore 1 :: p) i (some (.long w) :: o :: o9 :: ls) (.long x :: r) h = vs d k Q p (i + 1) (none :: some (.long x) :: none :: ls) r h := by
  show (2 < _ ∧ _) = _
  simp [ps2, ps0, Value.category]
theorem vs_iinc1l {d k i : Nat} {Q : Nat → Option Value → Hp → Prop} {p : List Instr} {ls : List (Option Value)} {st : List Value} {h : Hp} {w : Int64} {c : Int} {x : Int32} : vs d k Q (.iinc 1 c :: p) i (some (.long w) :: some (.int x) :: ls) st h = vs d k Q p (i + 1) (none :: some (.int (x + Int32.ofInt c)) :: ls) st h := by
  show vs d k Q p (i + 1) _ st h = _
  simp [ps1, ps0, Value.category]
theorem vs_iload2 {d k i : Nat} {Q : Nat → Option Value → Hp → Prop} {p : List Instr} {ls : List (Option Value)} {st : List Value} {h : Hp} {o0 o1 : Option Value} {x : Int32} : vs d k Q (.iload 2 :: p) i (o0 :: o1 :: some (.int x) :: ls) st h = vs d k Q p (i + 1) (o0 :: o1 :: some (.int x) :: ls) (.int x :: st) h := rfl
theorem vs_lload2 {d k i : Nat} {Q : Nat → Option Value → Hp → Prop} {p : List Instr} {ls : List (Option Value)} {st : List Value} {h : Hp} {o0 o1 : Option Value} {x : Int64} : vs d k Q (.lload 2 :: p) i (o0 :: o1 :: some (.long x) :: ls) st h = vs d k Q p (i + 1) (o0 :: o1 :: some (.long x) :: ls) (.long x :: st) h := rfl
theorem vs_aload2 {d k i : Nat} {Q : Nat → Option Value → Hp → Prop} {p : List Instr} {ls : List (Option Value)} {st : List Value} {h : Hp} {o0 o1 : Option Value} {x : Nat} : vs d k Q (.aload 2 :: p) i (o0 :: o1 :: some (.ref x) :: ls) st h = vs d k Q p (i + 1) (o0 :: o1 :: some (.ref x) :: ls) (.ref x :: st) h := rfl
theorem vs_istore2n {d k i : Nat} {Q : Nat → Option Value → Hp → Prop} {p : List Instr} {ls : List (Option Value)} {r : List Value} {h : Hp} {o0 : Option Value} {o : Option Value} {x : Int32} : vs d k Q (.istore 2 :: p) i (o0 :: none :: o :: ls) (.int x :: r) h = vs d k Q p (i + 1) (o0 :: none :: some (.int x) :: ls) r h := by
  show (2 < _ ∧ _) = _
  simp [ps1, ps0, Value.category]
theorem vs_astore2n {d k i : Nat} {Q : Nat → Option Value → Hp → Prop} {p : List Instr} {ls : List (Option Value)} {r : List Value} {h : Hp} {o0 : Option Value} {o : Option Value} {x : Nat} : vs d k Q (.astore 2 :: p) i (o0 :: none :: o :: ls) (.ref x :: r) h = vs d k Q p (i + 1) (o0 :: none :: some (.ref x) :: ls) r h := by
  show (2 < _ ∧ _) = _
  simp [ps1, ps0, Value.category]
theorem vs_lstore2n {d k i : Nat} {Q : Nat → Option Value → Hp → Prop} {p : List Instr} {ls : List (Option Value)} {r : List Value} {h : Hp} {o0 : Option Value} {o o9 : Option Value} {x : Int64} : vs d k Q (.lstore 2 :: p) i (o0 :: none :: o :: o9 :: ls) (.long x :: r) h = vs d k Q p (i + 1) (o0 :: none :: some (.long x) :: none :: ls) r h := by
  show (3 < _ ∧ _) = _
  simp [ps2, ps0, Value.category]
theorem vs_iinc2n {d k i : Nat} {Q : Nat → Option Value → Hp → Prop} {p : List Instr} {ls : List (Option Value)} {st : List Value} {h : Hp} {o0 : Option Value} {c : Int} {x : Int32} : vs d k Q (.iinc 2 c :: p) i (o0 :: none :: some (.int x) :: ls) st h = vs d k Q p (i + 1) (o0 :: none :: some (.int (x + Int32.ofInt c)) :: ls) st h := by
  show vs d k Q p (i + 1) _ st h = _
  simp [ps1, ps0, Value.category]
theorem vs_istore2i {d k i : Nat} {Q : Nat → Option Value → Hp → Prop} {p : List Instr} {ls : List (Option Value)} {r : List Value} {h : Hp} {o0 : Option Value} {w : Int32} {o : Option Value} {x : Int32} : vs d k Q (.istore 2 :: p) i (o0 :: some (.int w) :: o :: ls) (.int x :: r) h = vs d k Q p (i + 1) (o0 :: some (.int w) :: some (.int x) :: ls) r h := by
  show (2 < _ ∧ _) = _
  simp [ps1, ps0, Value.category]
theorem vs_astore2i {d k i : Nat} {Q : Nat → Option Value → Hp → Prop} {p : List Instr} {ls : List (Option Value)} {r : List Value} {h : Hp} {o0 : Option Value} {w : Int32} {o : Option Value} {x : Nat} : vs d k Q (.astore 2 :: p) i (o0 :: some (.int w) :: o :: ls) (.ref x :: r) h = vs d k Q p (i + 1) (o0 :: some (.int w) :: some (.ref x) :: ls) r h := by
  show (2 < _ ∧ _) = _
  simp [ps1, ps0, Value.category]
theorem vs_lstore2i {d k i : Nat} {Q : Nat → Option Value → Hp → Prop} {p : List Instr} {ls : List (Option Value)} {r : List Value} {h : Hp} {o0 : Option Value} {w : Int32} {o o9 : Option Value} {x : Int64} : vs d k Q (.lstore 2 :: p) i (o0 :: some (.int w) :: o :: o9 :: ls) (.long x :: r) h = vs d k Q p (i + 1) (o0 :: some (.int w) :: some (.long x) :: none :: ls) r h := by
  show (3 < _ ∧ _) = _
  simp [ps2, ps0, Value.category]
theorem vs_iinc2i {d k i : Nat} {Q : Nat → Option Value → Hp → Prop} {p : List Instr} {ls : List (Option Value)} {st : List Value} {h : Hp} {o0 : Option Value} {w : Int32} {c : Int} {x : Int32} : vs d k Q (.iinc 2 c :: p) i (o0 :: some (.int w) :: some (.int x) :: ls) st h = vs d k Q p (i + 1) (o0 :: some (.int w) :: some (.int (x + Int32.ofInt c)) :: ls) st h := by
  show vs d k Q p (i + 1) _ st h = _
  simp [ps1, ps0, Value.category]
theorem vs_istore2r {d k i : Nat} {Q : Nat → Option Value → Hp → Prop} {p : List Instr} {ls : List (Option Value)} {r : List Value} {h : Hp} {o0 : Option Value} {w : Nat} {o : Option Value} {x : Int32} : vs d k Q (.istore 2 :: p) i (o0 :: some (.ref w) :: o :: ls) (.int x :: r) h = vs d k Q p (i + 1) (o0 :: some (.ref w) :: some (.int x) :: ls) r h := by
  show (2 < _ ∧ _) = _
  simp [ps1, ps0, Value.category]
theorem vs_astore2r {d k i : Nat} {Q : Nat → Option Value → Hp → Prop} {p : List Instr} {ls : List (Option Value)} {r : List Value} {h : Hp} {o0 : Option Value} {w : Nat} {o : Option Value} {x : Nat} : vs d k Q (.astore 2 :: p) i (o0 :: some (.ref w) :: o :: ls) (.ref x :: r) h = vs d k Q p (i + 1) (o0 :: some (.ref w) :: some (.ref x) :: ls) r h := by
  show (2 < _ ∧ _) = _
  simp [ps1, ps0, Value.category]
theorem vs_lstore2r {d k i : Nat} {Q : Nat → Option Value → Hp → Prop} {p : List Instr} {ls : List (Option Value)} {r : List Value} {h : Hp} {o0 : Option Value} {w : Nat} {o o9 : Option Value} {x : Int64} : vs d k Q (.lstore 2 :: p) i (o0 :: some (.ref w) :: o :: o9 :: ls) (.long x :: r) h = vs d k Q p (i + 1) (o0 :: some (.ref w) :: some (.long x) :: none :: ls) r h := by
  show (3 < _ ∧ _) = _
  simp [ps2, ps0, Value.category]
theorem vs_iinc2r {d k i : Nat} {Q : Nat → Option Value → Hp → Prop} {p : List Instr} {ls : List (Option Value)} {st : List Value} {h : Hp} {o0 : Option Value} {w : Nat} {c : Int} {x : Int32} : vs d k Q (.iinc 2 c :: p) i (o0 :: some (.ref w) :: some (.int x) :: ls) st h = vs d k Q p (i + 1) (o0 :: some (.ref w) :: some (.int (x + Int32.ofInt c)) :: ls) st h := by
  show vs d k Q p (i + 1) _ st h = _
  simp [ps1, ps0, Value.category]
theorem vs_istore2l {d k i : Nat} {Q : Nat → Option Value → Hp → Prop} {p : List Instr} {ls : List (Option Value)} {r : List Value} {h : Hp} {o0 : Option Value} {w : Int64} {o : Option Value} {x : Int32} : vs d k Q (.istore 2 :: p) i (o0 :: some (.long w) :: o :: ls) (.int x :: r) h = vs d k Q p (i + 1) (o0 :: none :: some (.int x) :: ls) r h := by
  show (2 < _ ∧ _) = _
  simp [ps1, ps0, Value.category]
theorem vs_astore2l {d k i : Nat} {Q : Nat → Option Value → Hp → Prop} {p : List Instr} {ls : List (Option Value)} {r : List Value} {h : Hp} {o0 : Option Value} {w : Int64} {o : Option Value} {x : Nat} : vs d k Q (.astore 2 :: p) i (o0 :: some (.long w) :: o :: ls) (.ref x :: r) h = vs d k Q p (i + 1) (o0 :: none :: some (.ref x) :: ls) r h := by
  show (2 < _ ∧ _) = _
  simp [ps1, ps0, Value.category]
theorem vs_lstore2l {d k i : Nat} {Q : Nat → Option Value → Hp → Prop} {p : List Instr} {ls : List (Option Value)} {r : List Value} {h : Hp} {o0 : Option Value} {w : Int64} {o o9 : Option Value} {x : Int64} : vs d k Q (.lstore 2 :: p) i (o0 :: some (.long w) :: o :: o9 :: ls) (.long x :: r) h = vs d k Q p (i + 1) (o0 :: none :: some (.long x) :: none :: ls) r h := by
  show (3 < _ ∧ _) = _
  simp [ps2, ps0, Value.category]
theorem vs_iinc2l {d k i : Nat} {Q : Nat → Option Value → Hp → Prop} {p : List Instr} {ls : List (Option Value)} {st : List Value} {h : Hp} {o0 : Option Value} {w : Int64} {c : Int} {x : Int32} : vs d k Q (.iinc 2 c :: p) i (o0 :: some (.long w) :: some (.int x) :: ls) st h = vs d k Q p (i + 1) (o0 :: none :: some (.int (x + Int32.ofInt c)) :: ls) st h := by
  show vs d k Q p (i + 1) _ st h = _
  simp [ps1, ps0, Value.category]
theorem vs_iload3 {d k i : Nat} {Q : Nat → Option Value → Hp → Prop} {p : List Instr} {ls : List (Option Value)} {st : List Value} {h : Hp} {o0 o1 o2 : Option Value} {x : Int32} : vs d k Q (.iload 3 :: p) i (o0 :: o1 :: o2 :: some (.int x) :: ls) st h = vs d k Q p (i + 1) (o0 :: o1 :: o2 :: some (.int x) :: ls) (.int x :: st) h := rfl
theorem vs_lload3 {d k i : Nat} {Q : Nat → Option Value → Hp → Prop} {p : List Instr} {ls : List (Option Value)} {st : List Value} {h : Hp} {o0 o1 o2 : Option Value} {x : Int64} : vs d k Q (.lload 3 :: p) i (o0 :: o1 :: o2 :: some (.long x) :: ls) st h = vs d k Q p (i + 1) (o0 :: o1 :: o2 :: some (.long x) :: ls) (.long x :: st) h := rfl
theorem vs_aload3 {d k i : Nat} {Q : Nat → Option Value → Hp → Prop} {p : List Instr} {ls : List (Option Value)} {st : List Value} {h : Hp} {o0 o1 o2 : Option Value} {x : Nat} : vs d k Q (.aload 3 :: p) i (o0 :: o1 :: o2 :: some (.ref x) :: ls) st h = vs d k Q p (i + 1) (o0 :: o1 :: o2 :: some (.ref x) :: ls) (.ref x :: st) h := rfl
theorem vs_istore3n {d k i : Nat} {Q : Nat → Option Value → Hp → Prop} {p : List Instr} {ls : List (Option Value)} {r : List Value} {h : Hp} {o0 o1 : Option Value} {o : Option Value} {x : Int32} : vs d k Q (.istore 3 :: p) i (o0 :: o1 :: none :: o :: ls) (.int x :: r) h = vs d k Q p (i + 1) (o0 :: o1 :: none :: some (.int x) :: ls) r h := by
  show (3 < _ ∧ _) = _
  simp [ps1, ps0, Value.category]
theorem vs_astore3n {d k i : Nat} {Q : Nat → Option Value → Hp → Prop} {p : List Instr} {ls : List (Option Value)} {r : List Value} {h : Hp} {o0 o1 : Option Value} {o : Option Value} {x : Nat} : vs d k Q (.astore 3 :: p) i (o0 :: o1 :: none :: o :: ls) (.ref x :: r) h = vs d k Q p (i + 1) (o0 :: o1 :: none :: some (.ref x) :: ls) r h := by
  show (3 < _ ∧ _) = _
  simp [ps1, ps0, Value.category]
theorem vs_lstore3n {d k i : Nat} {Q : Nat → Option Value → Hp → Prop} {p : List Instr} {ls : List (Option Value)} {r : List Value} {h : Hp} {o0 o1 : Option Value} {o o9 : Option Value} {x : Int64} : vs d k Q (.lstore 3 :: p) i (o0 :: o1 :: none :: o :: o9 :: ls) (.long x :: r) h = vs d k Q p (i + 1) (o0 :: o1 :: none :: some (.long x) :: none :: ls) r h := by
  show (4 < _ ∧ _) = _
  simp [ps2, ps0, Value.category]
theorem vs_iinc3n {d k i : Nat} {Q : Nat → Option Value → Hp → Prop} {p : List Instr} {ls : List (Option Value)} {st : List Value} {h : Hp} {o0 o1 : Option Value} {c : Int} {x : Int32} : vs d k Q (.iinc 3 c :: p) i (o0 :: o1 :: none :: some (.int x) :: ls) st h = vs d k Q p (i + 1) (o0 :: o1 :: none :: some (.int (x + Int32.ofInt c)) :: ls) st h := by
  show vs d k Q p (i + 1) _ st h = _
  simp [ps1, ps0, Value.category]
theorem vs_istore3i {d k i : Nat} {Q : Nat → Option Value → Hp → Prop} {p : List Instr} {ls : List (Option Value)} {r : List Value} {h : Hp} {o0 o1 : Option Value} {w : Int32} {o : Option Value} {x : Int32} : vs d k Q (.istore 3 :: p) i (o0 :: o1 :: some (.int w) :: o :: ls) (.int x :: r) h = vs d k Q p (i + 1) (o0 :: o1 :: some (.int w) :: some (.int x) :: ls) r h := by
  show (3 < _ ∧ _) = _
  simp [ps1, ps0, Value.category]
theorem vs_astore3i {d k i : Nat} {Q : Nat → Option Value → Hp → Prop} {p : List Instr} {ls : List (Option Value)} {r : List Value} {h : Hp} {o0 o1 : Option Value} {w : Int32} {o : Option Value} {x : Nat} : vs d k Q (.astore 3 :: p) i (o0 :: o1 :: some (.int w) :: o :: ls) (.ref x :: r) h = vs d k Q p (i + 1) (o0 :: o1 :: some (.int w) :: some (.ref x) :: ls) r h := by
  show (3 < _ ∧ _) = _
  simp [ps1, ps0, Value.category]
theorem vs_lstore3i {d k i : Nat} {Q : Nat → Option Value → Hp → Prop} {p : List Instr} {ls : List (Option Value)} {r : List Value} {h : Hp} {o0 o1 : Option Value} {w : Int32} {o o9 : Option Value} {x : Int64} : vs d k Q (.lstore 3 :: p) i (o0 :: o1 :: some (.int w) :: o :: o9 :: ls) (.long x :: r) h = vs d k Q p (i + 1) (o0 :: o1 :: some (.int w) :: some (.long x) :: none :: ls) r h := by
  show (4 < _ ∧ _) = _
  simp [ps2, ps0, Value.category]
theorem vs_iinc3i {d k i : Nat} {Q : Nat → Option Value → Hp → Prop} {p : List Instr} {ls : List (Option Value)} {st : List Value} {h : Hp} {o0 o1 : Option Value} {w : Int32} {c : Int} {x : Int32} : vs d k Q (.iinc 3 c :: p) i (o0 :: o1 :: some (.int w) :: some (.int x) :: ls) st h = vs d k Q p (i + 1) (o0 :: o1 :: some (.int w) :: some (.int (x + Int32.ofInt c)) :: ls) st h := by
  show vs d k Q p (i + 1) _ st h = _
  simp [ps1, ps0, Value.category]
theorem vs_istore3r {d k i : Nat} {Q : Nat → Option Value → Hp → Prop} {p : List Instr} {ls : List (Option Value)} {r : List Value} {h : Hp} {o0 o1 : Option Value} {w : Nat} {o : Option Value} {x : Int32} : vs d k Q (.istore 3 :: p) i (o0 :: o1 :: some (.ref w) :: o :: ls) (.int x :: r) h = vs d k Q p (i + 1) (o0 :: o1 :: some (.ref w) :: some (.int x) :: ls) r h := by
  show (3 < _ ∧ _) = _
  simp [ps1, ps0, Value.category]
theorem vs_astore3r {d k i : Nat} {Q : Nat → Option Value → Hp → Prop} {p : List Instr} {ls : List (Option Value)} {r : List Value} {h : Hp} {o0 o1 : Option Value} {w : Nat} {o : Option Value} {x : Nat} : vs d k Q (.astore 3 :: p) i (o0 :: o1 :: some (.ref w) :: o :: ls) (.ref x :: r) h = vs d k Q p (i + 1) (o0 :: o1 :: some (.ref w) :: some (.ref x) :: ls) r h := by
  show (3 < _ ∧ _) = _
  simp [ps1, ps0, Value.category]
theorem vs_lstore3r {d k i : Nat} {Q : Nat → Option Value → Hp → Prop} {p : List Instr} {ls : List (Option Value)} {r : List Value} {h : Hp} {o0 o1 : Option Value} {w : Nat} {o o9 : Option Value} {x : Int64} : vs d k Q (.lstore 3 :: p) i (o0 :: o1 :: some (.ref w) :: o :: o9 :: ls) (.long x :: r) h = vs d k Q p (i + 1) (o0 :: o1 :: some (.ref w) :: some (.long x) :: none :: ls) r h := by
  show (4 < _ ∧ _) = _
  simp [ps2, ps0, Value.category]
theorem vs_iinc3r {d k i : Nat} {Q : Nat → Option Value → Hp → Prop} {p : List Instr} {ls : List (Option Value)} {st : List Value} {h : Hp} {o0 o1 : Option Value} {w : Nat} {c : Int} {x : Int32} : vs d k Q (.iinc 3 c :: p) i (o0 :: o1 :: some (.ref w) :: some (.int x) :: ls) st h = vs d k Q p (i + 1) (o0 :: o1 :: some (.ref w) :: some (.int (x + Int32.ofInt c)) :: ls) st h := by
  show vs d k Q p (i + 1) _ st h = _
  simp [ps1, ps0, Value.category]
theorem vs_istore3l {d k i : Nat} {Q : Nat → Option Value → Hp → Prop} {p : List Instr} {ls : List (Option Value)} {r : List Value} {h : Hp} {o0 o1 : Option Value} {w : Int64} {o : Option Value} {x : Int32} : vs d k Q (.istore 3 :: p) i (o0 :: o1 :: some (.long w) :: o :: ls) (.int x :: r) h = vs d k Q p (i + 1) (o0 :: o1 :: none :: some (.int x) :: ls) r h := by
  show (3 < _ ∧ _) = _
  simp [ps1, ps0, Value.category]
theorem vs_astore3l {d k i : Nat} {Q : Nat → Option Value → Hp → Prop} {p : List Instr} {ls : List (Option Value)} {r : List Value} {h : Hp} {o0 o1 : Option Value} {w : Int64} {o : Option Value} {x : Nat} : vs d k Q (.astore 3 :: p) i (o0 :: o1 :: some (.long w) :: o :: ls) (.ref x :: r) h = vs d k Q p (i + 1) (o0 :: o1 :: none :: some (.ref x) :: ls) r h := by
  show (3 < _ ∧ _) = _
  simp [ps1, ps0, Value.category]
theorem vs_lstore3l {d k i : Nat} {Q : Nat → Option Value → Hp → Prop} {p : List Instr} {ls : List (Option Value)} {r : List Value} {h : Hp} {o0 o1 : Option Value} {w : Int64} {o o9 : Option Value} {x : Int64} : vs d k Q (.lstore 3 :: p) i (o0 :: o1 :: some (.long w) :: o :: o9 :: ls) (.long x :: r) h = vs d k Q p (i + 1) (o0 :: o1 :: none :: some (.long x) :: none :: ls) r h := by
  show (4 < _ ∧ _) = _
  simp [ps2, ps0, Value.category]
theorem vs_iinc3l {d k i : Nat} {Q : Nat → Option Value → Hp → Prop} {p : List Instr} {ls : List (Option Value)} {st : List Value} {h : Hp} {o0 o1 : Option Value} {w : Int64} {c : Int} {x : Int32} : vs d k Q (.iinc 3 c :: p) i (o0 :: o1 :: some (.long w) :: some (.int x) :: ls) st h = vs d k Q p (i + 1) (o0 :: o1 :: none :: some (.int (x + Int32.ofInt c)) :: ls) st h := by
  show vs d k Q p (i + 1) _ st h = _
  simp [ps1, ps0, Value.category]
theorem vs_iload4 {d k i : Nat} {Q : Nat → Option Value → Hp → Prop} {p : List Instr} {ls : List (Option Value)} {st : List Value} {h : Hp} {o0 o1 o2 o3 : Option Value} {x : Int32} : vs d k Q (.iload 4 :: p) i (o0 :: o1 :: o2 :: o3 :: some (.int x) :: ls) st h = vs d k Q p (i + 1) (o0 :: o1 :: o2 :: o3 :: some (.int x) :: ls) (.int x :: st) h := rfl
theorem vs_lload4 {d k i : Nat} {Q : Nat → Option Value → Hp → Prop} {p : List Instr} {ls : List (Option Value)} {st : List Value} {h : Hp} {o0 o1 o2 o3 : Option Value} {x : Int64} : vs d k Q (.lload 4 :: p) i (o0 :: o1 :: o2 :: o3 :: some (.long x) :: ls) st h = vs d k Q p (i + 1) (o0 :: o1 :: o2 :: o3 :: some (.long x) :: ls) (.long x :: st) h := rfl
theorem vs_aload4 {d k i : Nat} {Q : Nat → Option Value → Hp → Prop} {p : List Instr} {ls : List (Option Value)} {st : List Value} {h : Hp} {o0 o1 o2 o3 : Option Value} {x : Nat} : vs d k Q (.aload 4 :: p) i (o0 :: o1 :: o2 :: o3 :: some (.ref x) :: ls) st h = vs d k Q p (i + 1) (o0 :: o1 :: o2 :: o3 :: some (.ref x) :: ls) (.ref x :: st) h := rfl
theorem vs_istore4n {d k i : Nat} {Q : Nat → Option Value → Hp → Prop} {p : List Instr} {ls : List (Option Value)} {r : List Value} {h : Hp} {o0 o1 o2 : Option Value} {o : Option Value} {x : Int32} : vs d k Q (.istore 4 :: p) i (o0 :: o1 :: o2 :: none :: o :: ls) (.int x :: r) h = vs d k Q p (i + 1) (o0 :: o1 :: o2 :: none :: some (.int x) :: ls) r h := by
  show (4 < _ ∧ _) = _
  simp [ps1, ps0, Value.category]
theorem vs_astore4n {d k i : Nat} {Q : Nat → Option Value → Hp → Prop} {p : List Instr} {ls : List (Option Value)} {r : List Value} {h : Hp} {o0 o1 o2 : Option Value} {o : Option Value} {x : Nat} : vs d k Q (.astore 4 :: p) i (o0 :: o1 :: o2 :: none :: o :: ls) (.ref x :: r) h = vs d k Q p (i + 1) (o0 :: o1 :: o2 :: none :: some (.ref x) :: ls) r h := by
  show (4 < _ ∧ _) = _
  simp [ps1, ps0, Value.category]
theorem vs_lstore4n {d k i : Nat} {Q : Nat → Option Value → Hp → Prop} {p : List Instr} {ls : List (Option Value)} {r : List Value} {h : Hp} {o0 o1 o2 : Option Value} {o o9 : Option Value} {x : Int64} : vs d k Q (.lstore 4 :: p) i (o0 :: o1 :: o2 :: none :: o :: o9 :: ls) (.long x :: r) h = vs d k Q p (i + 1) (o0 :: o1 :: o2 :: none :: some (.long x) :: none :: ls) r h := by
  show (5 < _ ∧ _) = _
  simp [ps2, ps0, Value.category]
theorem vs_iinc4n {d k i : Nat} {Q : Nat → Option Value → Hp → Prop} {p : List Instr} {ls : List (Option Value)} {st : List Value} {h : Hp} {o0 o1 o2 : Option Value} {c : Int} {x : Int32} : vs d k Q (.iinc 4 c :: p) i (o0 :: o1 :: o2 :: none :: some (.int x) :: ls) st h = vs d k Q p (i + 1) (o0 :: o1 :: o2 :: none :: some (.int (x + Int32.ofInt c)) :: ls) st h := by
  show vs d k Q p (i + 1) _ st h = _
  simp [ps1, ps0, Value.category]
theorem vs_istore4i {d k i : Nat} {Q : Nat → Option Value → Hp → Prop} {p : List Instr} {ls : List (Option Value)} {r : List Value} {h : Hp} {o0 o1 o2 : Option Value} {w : Int32} {o : Option Value} {x : Int32} : vs d k Q (.istore 4 :: p) i (o0 :: o1 :: o2 :: some (.int w) :: o :: ls) (.int x :: r) h = vs d k Q p (i + 1) (o0 :: o1 :: o2 :: some (.int w) :: some (.int x) :: ls) r h := by
  show (4 < _ ∧ _) = _
  simp [ps1, ps0, Value.category]
theorem vs_astore4i {d k i : Nat} {Q : Nat → Option Value → Hp → Prop} {p : List Instr} {ls : List (Option Value)} {r : List Value} {h : Hp} {o0 o1 o2 : Option Value} {w : Int32} {o : Option Value} {x : Nat} : vs d k Q (.astore 4 :: p) i (o0 :: o1 :: o2 :: some (.int w) :: o :: ls) (.ref x :: r) h = vs d k Q p (i + 1) (o0 :: o1 :: o2 :: some (.int w) :: some (.ref x) :: ls) r h := by
  show (4 < _ ∧ _) = _
  simp [ps1, ps0, Value.category]
theorem vs_lstore4i {d k i : Nat} {Q : Nat → Option Value → Hp → Prop} {p : List Instr} {ls : List (Option Value)} {r : List Value} {h : Hp} {o0 o1 o2 : Option Value} {w : Int32} {o o9 : Option Value} {x : Int64} : vs d k Q (.lstore 4 :: p) i (o0 :: o1 :: o2 :: some (.int w) :: o :: o9 :: ls) (.long x :: r) h = vs d k Q p (i + 1) (o0 :: o1 :: o2 :: some (.int w) :: some (.long x) :: none :: ls) r h := by
  show (5 < _ ∧ _) = _
  simp [ps2, ps0, Value.category]
theorem vs_iinc4i {d k i : Nat} {Q : Nat → Option Value → Hp → Prop} {p : List Instr} {ls : List (Option Value)} {st : List Value} {h : Hp} {o0 o1 o2 : Option Value} {w : Int32} {c : Int} {x : Int32} : vs d k Q (.iinc 4 c :: p) i (o0 :: o1 :: o2 :: some (.int w) :: some (.int x) :: ls) st h = vs d k Q p (i + 1) (o0 :: o1 :: o2 :: some (.int w) :: some (.int (x + Int32.ofInt c)) :: ls) st h := by
  show vs d k Q p (i + 1) _ st h = _
  simp [ps1, ps0, Value.category]
theorem vs_istore4r {d k i : Nat} {Q : Nat → Option Value → Hp → Prop} {p : List Instr} {ls : List (Option Value)} {r : List Value} {h : Hp} {o0 o1 o2 : Option Value} {w : Nat} {o : Option Value} {x : Int32} : vs d k Q (.istore 4 :: p) i (o0 :: o1 :: o2 :: some (.ref w) :: o :: ls) (.int x :: r) h = vs d k Q p (i + 1) (o0 :: o1 :: o2 :: some (.ref w) :: some (.int x) :: ls) r h := by
  show (4 < _ ∧ _) = _
  simp [ps1, ps0, Value.category]
theorem vs_astore4r {d k i : Nat} {Q : Nat → Option Value → Hp → Prop} {p : List Instr} {ls : List (Option Value)} {r : List Value} {h : Hp} {o0 o1 o2 : Option Value} {w : Nat} {o : Option Value} {x : Nat} : vs d k Q (.astore 4 :: p) i (o0 :: o1 :: o2 :: some (.ref w) :: o :: ls) (.ref x :: r) h = vs d k Q p (i + 1) (o0 :: o1 :: o2 :: some (.ref w) :: some (.ref x) :: ls) r h := by
  show (4 < _ ∧ _) = _
  simp [ps1, ps0, Value.category]
theorem vs_lstore4r {d k i : Nat} {Q : Nat → Option Value → Hp → Prop} {p : List Instr} {ls : List (Option Value)} {r : List Value} {h : Hp} {o0 o1 o2 : Option Value} {w : Nat} {o o9 : Option Value} {x : Int64} : vs d k Q (.lstore 4 :: p) i (o0 :: o1 :: o2 :: some (.ref w) :: o :: o9 :: ls) (.long x :: r) h = vs d k Q p (i + 1) (o0 :: o1 :: o2 :: some (.ref w) :: some (.long x) :: none :: ls) r h := by
  show (5 < _ ∧ _) = _
  simp [ps2, ps0, Value.category]
theorem vs_iinc4r {d k i : Nat} {Q : Nat → Option Value → Hp → Prop} {p : List Instr} {ls : List (Option Value)} {st : List Value} {h : Hp} {o0 o1 o2 : Option Value} {w : Nat} {c : Int} {x : Int32} : vs d k Q (.iinc 4 c :: p) i (o0 :: o1 :: o2 :: some (.ref w) :: some (.int x) :: ls) st h = vs d k Q p (i + 1) (o0 :: o1 :: o2 :: some (.ref w) :: some (.int (x + Int32.ofInt c)) :: ls) st h := by
  show vs d k Q p (i + 1) _ st h = _
  simp [ps1, ps0, Value.category]
theorem vs_istore4l {d k i : Nat} {Q : Nat → Option Value → Hp → Prop} {p : List Instr} {ls : List (Option Value)} {r : List Value} {h : Hp} {o0 o1 o2 : Option Value} {w : Int64} {o : Option Value} {x : Int32} : vs d k Q (.istore 4 :: p) i (o0 :: o1 :: o2 :: some (.long w) :: o :: ls) (.int x :: r) h = vs d k Q p (i + 1) (o0 :: o1 :: o2 :: none :: some (.int x) :: ls) r h := by
  show (4 < _ ∧ _) = _
  simp [ps1, ps0, Value.category]
theorem vs_astore4l {d k i : Nat} {Q : Nat → Option Value → Hp → Prop} {p : List Instr} {ls : List (Option Value)} {r : List Value} {h : Hp} {o0 o1 o2 : Option Value} {w : Int64} {o : Option Value} {x : Nat} : vs d k Q (.astore 4 :: p) i (o0 :: o1 :: o2 :: some (.long w) :: o :: ls) (.ref x :: r) h = vs d k Q p (i + 1) (o0 :: o1 :: o2 :: none :: some (.ref x) :: ls) r h := by
  show (4 < _ ∧ _) = _
  simp [ps1, ps0, Value.category]
theorem vs_lstore4l {d k i : Nat} {Q : Nat → Option Value → Hp → Prop} {p : List Instr} {ls : List (Option Value)} {r : List Value} {h : Hp} {o0 o1 o2 : Option Value} {w : Int64} {o o9 : Option Value} {x : Int64} : vs d k Q (.lstore 4 :: p) i (o0 :: o1 :: o2 :: some (.long w) :: o :: o9 :: ls) (.long x :: r) h = vs d k Q p (i + 1) (o0 :: o1 :: o2 :: none :: some (.long x) :: none :: ls) r h := by
  show (5 < _ ∧ _) = _
  simp [ps2, ps0, Value.category]
theorem vs_iinc4l {d k i : Nat} {Q : Nat → Option Value → Hp → Prop} {p : List Instr} {ls : List (Option Value)} {st : List Value} {h : Hp} {o0 o1 o2 : Option Value} {w : Int64} {c : Int} {x : Int32} : vs d k Q (.iinc 4 c :: p) i (o0 :: o1 :: o2 :: some (.long w) :: some (.int x) :: ls) st h = vs d k Q p (i + 1) (o0 :: o1 :: o2 :: none :: some (.int (x + Int32.ofInt c)) :: ls) st h := by
  show vs d k Q p (i + 1) _ st h = _
  simp [ps1, ps0, Value.category]
theorem vs_iload5 {d k i : Nat} {Q : Nat → Option Value → Hp → Prop} {p : List Instr} {ls : List (Option Value)} {st : List Value} {h : Hp} {o0 o1 o2 o3 o4 : Option Value} {x : Int32} : vs d k Q (.iload 5 :: p) i (o0 :: o1 :: o2 :: o3 :: o4 :: some (.int x) :: ls) st h = vs d k Q p (i + 1) (o0 :: o1 :: o2 :: o3 :: o4 :: some (.int x) :: ls) (.int x :: st) h := rfl
theorem vs_lload5 {d k i : Nat} {Q : Nat → Option Value → Hp → Prop} {p : List Instr} {ls : List (Option Value)} {st : List Value} {h : Hp} {o0 o1 o2 o3 o4 : Option Value} {x : Int64} : vs d k Q (.lload 5 :: p) i (o0 :: o1 :: o2 :: o3 :: o4 :: some (.long x) :: ls) st h = vs d k Q p (i + 1) (o0 :: o1 :: o2 :: o3 :: o4 :: some (.long x) :: ls) (.long x :: st) h := rfl
theorem vs_aload5 {d k i : Nat} {Q : Nat → Option Value → Hp → Prop} {p : List Instr} {ls : List (Option Value)} {st : List Value} {h : Hp} {o0 o1 o2 o3 o4 : Option Value} {x : Nat} : vs d k Q (.aload 5 :: p) i (o0 :: o1 :: o2 :: o3 :: o4 :: some (.ref x) :: ls) st h = vs d k Q p (i + 1) (o0 :: o1 :: o2 :: o3 :: o4 :: some (.ref x) :: ls) (.ref x :: st) h := rfl
theorem vs_istore5n {d k i : Nat} {Q : Nat → Option Value → Hp → Prop} {p : List Instr} {ls : List (Option Value)} {r : List Value} {h : Hp} {o0 o1 o2 o3 : Option Value} {o : Option Value} {x : Int32} : vs d k Q (.istore 5 :: p) i (o0 :: o1 :: o2 :: o3 :: none :: o :: ls) (.int x :: r) h = vs d k Q p (i + 1) (o0 :: o1 :: o2 :: o3 :: none :: some (.int x) :: ls) r h := by
  show (5 < _ ∧ _) = _
  simp [ps1, ps0, Value.category]
theorem vs_astore5n {d k i : Nat} {Q : Nat → Option Value → Hp → Prop} {p : List Instr} {ls : List (Option Value)} {r : List Value} {h : Hp} {o0 o1 o2 o3 : Option Value} {o : Option Value} {x : Nat} : vs d k Q (.astore 5 :: p) i (o0 :: o1 :: o2 :: o3 :: none :: o :: ls) (.ref x :: r) h = vs d k Q p (i + 1) (o0 :: o1 :: o2 :: o3 :: none :: some (.ref x) :: ls) r h := by
  show (5 < _ ∧ _) = _
  simp [ps1, ps0, Value.category]
theorem vs_lstore5n {d k i : Nat} {Q : Nat → Option Value → Hp → Prop} {p : List Instr} {ls : List (Option Value)} {r : List Value} {h : Hp} {o0 o1 o2 o3 : Option Value} {o o9 : Option Value} {x : Int64} : vs d k Q (.lstore 5 :: p) i (o0 :: o1 :: o2 :: o3 :: none :: o :: o9 :: ls) (.long x :: r) h = vs d k Q p (i + 1) (o0 :: o1 :: o2 :: o3 :: none :: some (.long x) :: none :: ls) r h := by
  show (6 < _ ∧ _) = _
  simp [ps2, ps0, Value.category]
theorem vs_iinc5n {d k i : Nat} {Q : Nat → Option Value → Hp → Prop} {p : List Instr} {ls : List (Option Value)} {st : List Value} {h : Hp} {o0 o1 o2 o3 : Option Value} {c : Int} {x : Int32} : vs d k Q (.iinc 5 c :: p) i (o0 :: o1 :: o2 :: o3 :: none :: some (.int x) :: ls) st h = vs d k Q p (i + 1) (o0 :: o1 :: o2 :: o3 :: none :: some (.int (x + Int32.ofInt c)) :: ls) st h := by
  show vs d k Q p (i + 1) _ st h = _
  simp [ps1, ps0, Value.category]
theorem vs_istore5i {d k i : Nat} {Q : Nat → Option Value → Hp → Prop} {p : List Instr} {ls : List (Option Value)} {r : List Value} {h : Hp} {o0 o1 o2 o3 : Option Value} {w : Int32} {o : Option Value} {x : Int32} : vs d k Q (.istore 5 :: p) i (o0 :: o1 :: o2 :: o3 :: some (.int w) :: o :: ls) (.int x :: r) h = vs d k Q p (i + 1) (o0 :: o1 :: o2 :: o3 :: some (.int w) :: some (.int x) :: ls) r h := by
  show (5 < _ ∧ _) = _
  simp [ps1, ps0, Value.category]
theorem vs_astore5i {d k i : Nat} {Q : Nat → Option Value → Hp → Prop} {p : List Instr} {ls : List (Option Value)} {r : List Value} {h : Hp} {o0 o1 o2 o3 : Option Value} {w : Int32} {o : Option Value} {x : Nat} : vs d k Q (.astore 5 :: p) i (o0 :: o1 :: o2 :: o3 :: some (.int w) :: o :: ls) (.ref x :: r) h = vs d k Q p (i + 1) (o0 :: o1 :: o2 :: o3 :: some (.int w) :: some (.ref x) :: ls) r h := by
  show (5 < _ ∧ _) = _
  simp [ps1, ps0, Value.category]
theorem vs_lstore5i {d k i : Nat} {Q : Nat → Option Value → Hp → Prop} {p : List Instr} {ls : List (Option Value)} {r : List Value} {h : Hp} {o0 o1 o2 o3 : Option Value} {w : Int32} {o o9 : Option Value} {x : Int64} : vs d k Q (.lstore 5 :: p) i (o0 :: o1 :: o2 :: o3 :: some (.int w) :: o :: o9 :: ls) (.long x :: r) h = vs d k Q p (i + 1) (o0 :: o1 :: o2 :: o3 :: some (.int w) :: some (.long x) :: none :: ls) r h := by
  show (6 < _ ∧ _) = _
  simp [ps2, ps0, Value.category]
theorem vs_iinc5i {d k i : Nat} {Q : Nat → Option Value → Hp → Prop} {p : List Instr} {ls : List (Option Value)} {st : List Value} {h : Hp} {o0 o1 o2 o3 : Option Value} {w : Int32} {c : Int} {x : Int32} : vs d k Q (.iinc 5 c :: p) i (o0 :: o1 :: o2 :: o3 :: some (.int w) :: some (.int x) :: ls) st h = vs d k Q p (i + 1) (o0 :: o1 :: o2 :: o3 :: some (.int w) :: some (.int (x + Int32.ofInt c)) :: ls) st h := by
  show vs d k Q p (i + 1) _ st h = _
  simp [ps1, ps0, Value.category]
theorem vs_istore5r {d k i : Nat} {Q : Nat → Option Value → Hp → Prop} {p : List Instr} {ls : List (Option Value)} {r : List Value} {h : Hp} {o0 o1 o2 o3 : Option Value} {w : Nat} {o : Option Value} {x : Int32} : vs d k Q (.istore 5 :: p) i (o0 :: o1 :: o2 :: o3 :: some (.ref w) :: o :: ls) (.int x :: r) h = vs d k Q p (i + 1) (o0 :: o1 :: o2 :: o3 :: some (.ref w) :: some (.int x) :: ls) r h := by
  show (5 < _ ∧ _) = _
  simp [ps1, ps0, Value.category]
theorem vs_astore5r {d k i : Nat} {Q : Nat → Option Value → Hp → Prop} {p : List Instr} {ls : List (Option Value)} {r : List Value} {h : Hp} {o0 o1 o2 o3 : Option Value} {w : Nat} {o : Option Value} {x : Nat} : vs d k Q (.astore 5 :: p) i (o0 :: o1 :: o2 :: o3 :: some (.ref w) :: o :: ls) (.ref x :: r) h = vs d k Q p (i + 1) (o0 :: o1 :: o2 :: o3 :: some (.ref w) :: some (.ref x) :: ls) r h := by
  show (5 < _ ∧ _) = _
  simp [ps1, ps0, Value.category]
theorem vs_lstore5r {d k i : Nat} {Q : Nat → Option Value → Hp → Prop} {p : List Instr} {ls : List (Option Value)} {r : List Value} {h : Hp} {o0 o1 o2 o3 : Option Value} {w : Nat} {o o9 : Option Value} {x : Int64} : vs d k Q (.lstore 5 :: p) i (o0 :: o1 :: o2 :: o3 :: some (.ref w) :: o :: o9 :: ls) (.long x :: r) h = vs d k Q p (i + 1) (o0 :: o1 :: o2 :: o3 :: some (.ref w) :: some (.long x) :: none :: ls) r h := by
  show (6 < _ ∧ _) = _
  simp [ps2, ps0, Value.category]
theorem vs_iinc5r {d k i : Nat} {Q : Nat → Option Value → Hp → Prop} {p : List Instr} {ls : List (Option Value)} {st : List Value} {h : Hp} {o0 o1 o2 o3 : Option Value} {w : Nat} {c : Int} {x : Int32} : vs d k Q (.iinc 5 c :: p) i (o0 :: o1 :: o2 :: o3 :: some (.ref w) :: some (.int x) :: ls) st h = vs d k Q p (i + 1) (o0 :: o1 :: o2 :: o3 :: some (.ref w) :: some (.int (x + Int32.ofInt c)) :: ls) st h := by
  show vs d k Q p (i + 1) _ st h = _
  simp [ps1, ps0, Value.category]
theorem vs_istore5l {d k i : Nat} {Q : Nat → Option Value → Hp → Prop} {p : List Instr} {ls : List (Option Value)} {r : List Value} {h : Hp} {o0 o1 o2 o3 : Option Value} {w : Int64} {o : Option Value} {x : Int32} : vs d k Q (.istore 5 :: p) i (o0 :: o1 :: o2 :: o3 :: some (.long w) :: o :: ls) (.int x :: r) h = vs d k Q p (i + 1) (o0 :: o1 :: o2 :: o3 :: none :: some (.int x) :: ls) r h := by
  show (5 < _ ∧ _) = _
  simp [ps1, ps0, Value.category]
theorem vs_astore5l {d k i : Nat} {Q : Nat → Option Value → Hp → Prop} {p : List Instr} {ls : List (Option Value)} {r : List Value} {h : Hp} {o0 o1 o2 o3 : Option Value} {w : Int64} {o : Option Value} {x : Nat} : vs d k Q (.astore 5 :: p) i (o0 :: o1 :: o2 :: o3 :: some (.long w) :: o :: ls) (.ref x :: r) h = vs d k Q p (i + 1) (o0 :: o1 :: o2 :: o3 :: none :: some (.ref x) :: ls) r h := by
  show (5 < _ ∧ _) = _
  simp [ps1, ps0, Value.category]
theorem vs_lstore5l {d k i : Nat} {Q : Nat → Option Value → Hp → Prop} {p : List Instr} {ls : List (Option Value)} {r : List Value} {h : Hp} {o0 o1 o2 o3 : Option Value} {w : Int64} {o o9 : Option Value} {x : Int64} : vs d k Q (.lstore 5 :: p) i (o0 :: o1 :: o2 :: o3 :: some (.long w) :: o :: o9 :: ls) (.long x :: r) h = vs d k Q p (i + 1) (o0 :: o1 :: o2 :: o3 :: none :: some (.long x) :: none :: ls) r h := by
  show (6 < _ ∧ _) = _
  simp [ps2, ps0, Value.category]
theorem vs_iinc5l {d k i : Nat} {Q : Nat → Option Value → Hp → Prop} {p : List Instr} {ls : List (Option Value)} {st : List Value} {h : Hp} {o0 o1 o2 o3 : Option Value} {w : Int64} {c : Int} {x : Int32} : vs d k Q (.iinc 5 c :: p) i (o0 :: o1 :: o2 :: o3 :: some (.long w) :: some (.int x) :: ls) st h = vs d k Q p (i + 1) (o0 :: o1 :: o2 :: o3 :: none :: some (.int (x + Int32.ofInt c)) :: ls) st h := by
  show vs d k Q p (i + 1) _ st h = _
  simp [ps1, ps0, Value.category]
theorem vs_iload6 {d k i : Nat} {Q : Nat → Option Value → Hp → Prop} {p : List Instr} {ls : List (Option Value)} {st : List Value} {h : Hp} {o0 o1 o2 o3 o4 o5 : Option Value} {x : Int32} : vs d k Q (.iload 6 :: p) i (o0 :: o1 :: o2 :: o3 :: o4 :: o5 :: some (.int x) :: ls) st h = vs d k Q p (i + 1) (o0 :: o1 :: o2 :: o3 :: o4 :: o5 :: some (.int x) :: ls) (.int x :: st) h := rfl
theorem vs_lload6 {d k i : Nat} {Q : Nat → Option Value → Hp → Prop} {p : List Instr} {ls : List (Option Value)} {st : List Value} {h : Hp} {o0 o1 o2 o3 o4 o5 : Option Value} {x : Int64} : vs d k Q (.lload 6 :: p) i (o0 :: o1 :: o2 :: o3 :: o4 :: o5 :: some (.long x) :: ls) st h = vs d k Q p (i + 1) (o0 :: o1 :: o2 :: o3 :: o4 :: o5 :: some (.long x) :: ls) (.long x :: st) h := rfl
theorem vs_aload6 {d k i : Nat} {Q : Nat → Option Value → Hp → Prop} {p : List Instr} {ls : List (Option Value)} {st : List Value} {h : Hp} {o0 o1 o2 o3 o4 o5 : Option Value} {x : Nat} : vs d k Q (.aload 6 :: p) i (o0 :: o1 :: o2 :: o3 :: o4 :: o5 :: some (.ref x) :: ls) st h = vs d k Q p (i + 1) (o0 :: o1 :: o2 :: o3 :: o4 :: o5 :: some (.ref x) :: ls) (.ref x :: st) h := rfl
theorem vs_istore6n {d k i : Nat} {Q : Nat → Option Value → Hp → Prop} {p : List Instr} {ls : List (Option Value)} {r : List Value} {h : Hp} {o0 o1 o2 o3 o4 : Option Value} {o : Option Value} {x : Int32} : vs d k Q (.istore 6 :: p) i (o0 :: o1 :: o2 :: o3 :: o4 :: none :: o :: ls) (.int x :: r) h = vs d k Q p (i + 1) (o0 :: o1 :: o2 :: o3 :: o4 :: none :: some (.int x) :: ls) r h := by
  show (6 < _ ∧ _) = _
  simp [ps1, ps0, Value.category]
theorem vs_astore6n {d k i : Nat} {Q : Nat → Option Value → Hp → Prop} {p : List Instr} {ls : List (Option Value)} {r : List Value} {h : Hp} {o0 o1 o2 o3 o4 : Option Value} {o : Option Value} {x : Nat} : vs d k Q (.astore 6 :: p) i (o0 :: o1 :: o2 :: o3 :: o4 :: none :: o :: ls) (.ref x :: r) h = vs d k Q p (i + 1) (o0 :: o1 :: o2 :: o3 :: o4 :: none :: some (.ref x) :: ls) r h := by
  show (6 < _ ∧ _) = _
  simp [ps1, ps0, Value.category]
theorem vs_lstore6n {d k i : Nat} {Q : Nat → Option Value → Hp → Prop} {p : List Instr} {ls : List (Option Value)} {r : List Value} {h : Hp} {o0 o1 o2 o3 o4 : Option Value} {o o9 : Option Value} {x : Int64} : vs d k Q (.lstore 6 :: p) i (o0 :: o1 :: o2 :: o3 :: o4 :: none :: o :: o9 :: ls) (.long x :: r) h = vs d k Q p (i + 1) (o0 :: o1 :: o2 :: o3 :: o4 :: none :: some (.long x) :: none :: ls) r h := by
  show (7 < _ ∧ _) = _
  simp [ps2, ps0, Value.category]
theorem vs_iinc6n {d k i : Nat} {Q : Nat → Option Value → Hp → Prop} {p : List Instr} {ls : List (Option Value)} {st : List Value} {h : Hp} {o0 o1 o2 o3 o4 : Option Value} {c : Int} {x : Int32} : vs d k Q (.iinc 6 c :: p) i (o0 :: o1 :: o2 :: o3 :: o4 :: none :: some (.int x) :: ls) st h = vs d k Q p (i + 1) (o0 :: o1 :: o2 :: o3 :: o4 :: none :: some (.int (x + Int32.ofInt c)) :: ls) st h := by
  show vs d k Q p (i + 1) _ st h = _
  simp [ps1, ps0, Value.category]
theorem vs_istore6i {d k i : Nat} {Q : Nat → Option Value → Hp → Prop} {p : List Instr} {ls : List (Option Value)} {r : List Value} {h : Hp} {o0 o1 o2 o3 o4 : Option Value} {w : Int32} {o : Option Value} {x : Int32} : vs d k Q (.istore 6 :: p) i (o0 :: o1 :: o2 :: o3 :: o4 :: some (.int w) :: o :: ls) (.int x :: r) h = vs d k Q p (i + 1) (o0 :: o1 :: o2 :: o3 :: o4 :: some (.int w) :: some (.int x) :: ls) r h := by
  show (6 < _ ∧ _) = _
  simp [ps1, ps0, Value.category]
theorem vs_astore6i {d k i : Nat} {Q : Nat → Option Value → Hp → Prop} {p : List Instr} {ls : List (Option Value)} {r : List Value} {h : Hp} {o0 o1 o2 o3 o4 : Option Value} {w : Int32} {o : Option Value} {x : Nat} : vs d k Q (.astore 6 :: p) i (o0 :: o1 :: o2 :: o3 :: o4 :: some (.int w) :: o :: ls) (.ref x :: r) h = vs d k Q p (i + 1) (o0 :: o1 :: o2 :: o3 :: o4 :: some (.int w) :: some (.ref x) :: ls) r h := by
  show (6 < _ ∧ _) = _
  simp [ps1, ps0, Value.category]
theorem vs_lstore6i {d k i : Nat} {Q : Nat → Option Value → Hp → Prop} {p : List Instr} {ls : List (Option Value)} {r : List Value} {h : Hp} {o0 o1 o2 o3 o4 : Option Value} {w : Int32} {o o9 : Option Value} {x : Int64} : vs d k Q (.lstore 6 :: p) i (o0 :: o1 :: o2 :: o3 :: o4 :: some (.int w) :: o :: o9 :: ls) (.long x :: r) h = vs d k Q p (i + 1) (o0 :: o1 :: o2 :: o3 :: o4 :: some (.int w) :: some (.long x) :: none :: ls) r h := by
  show (7 < _ ∧ _) = _
  simp [ps2, ps0, Value.category]
theorem vs_iinc6i {d k i : Nat} {Q : Nat → Option Value → Hp → Prop} {p : List Instr} {ls : List (Option Value)} {st : List Value} {h : Hp} {o0 o1 o2 o3 o4 : Option Value} {w : Int32} {c : Int} {x : Int32} : vs d k Q (.iinc 6 c :: p) i (o0 :: o1 :: o2 :: o3 :: o4 :: some (.int w) :: some (.int x) :: ls) st h = vs d k Q p (i + 1) (o0 :: o1 :: o2 :: o3 :: o4 :: some (.int w) :: some (.int (x + Int32.ofInt c)) :: ls) st h := by
  show vs d k Q p (i + 1) _ st h = _
  simp [ps1, ps0, Value.category]
theorem vs_istore6r {d k i : Nat} {Q : Nat → Option Value → Hp → Prop} {p : List Instr} {ls : List (Option Value)} {r : List Value} {h : Hp} {o0 o1 o2 o3 o4 : Option Value} {w : Nat} {o : Option Value} {x : Int32} : vs d k Q (.istore 6 :: p) i (o0 :: o1 :: o2 :: o3 :: o4 :: some (.ref w) :: o :: ls) (.int x :: r) h = vs d k Q p (i + 1) (o0 :: o1 :: o2 :: o3 :: o4 :: some (.ref w) :: some (.int x) :: ls) r h := by
  show (6 < _ ∧ _) = _
  simp [ps1, ps0, Value.category]
theorem vs_astore6r {d k i : Nat} {Q : Nat → Option Value → Hp → Prop} {p : List Instr} {ls : List (Option Value)} {r : List Value} {h : Hp} {o0 o1 o2 o3 o4 : Option Value} {w : Nat} {o : Option Value} {x : Nat} : vs d k Q (.astore 6 :: p) i (o0 :: o1 :: o2 :: o3 :: o4 :: some (.ref w) :: o :: ls) (.ref x :: r) h = vs d k Q p (i + 1) (o0 :: o1 :: o2 :: o3 :: o4 :: some (.ref w) :: some (.ref x) :: ls) r h := by
  show (6 < _ ∧ _) = _
  simp [ps1, ps0, Value.category]
theorem vs_lstore6r {d k i : Nat} {Q : Nat → Option Value → Hp → Prop} {p : List Instr} {ls : List (Option Value)} {r : List Value} {h : Hp} {o0 o1 o2 o3 o4 : Option Value} {w : Nat} {o o9 : Option Value} {x : Int64} : vs d k Q (.lstore 6 :: p) i (o0 :: o1 :: o2 :: o3 :: o4 :: some (.ref w) :: o :: o9 :: ls) (.long x :: r) h = vs d k Q p (i + 1) (o0 :: o1 :: o2 :: o3 :: o4 :: some (.ref w) :: some (.long x) :: none :: ls) r h := by
  show (7 < _ ∧ _) = _
  simp [ps2, ps0, Value.category]
theorem vs_iinc6r {d k i : Nat} {Q : Nat → Option Value → Hp → Prop} {p : List Instr} {ls : List (Option Value)} {st : List Value} {h : Hp} {o0 o1 o2 o3 o4 : Option Value} {w : Nat} {c : Int} {x : Int32} : vs d k Q (.iinc 6 c :: p) i (o0 :: o1 :: o2 :: o3 :: o4 :: some (.ref w) :: some (.int x) :: ls) st h = vs d k Q p (i + 1) (o0 :: o1 :: o2 :: o3 :: o4 :: some (.ref w) :: some (.int (x + Int32.ofInt c)) :: ls) st h := by
  show vs d k Q p (i + 1) _ st h = _
  simp [ps1, ps0, Value.category]
theorem vs_istore6l {d k i : Nat} {Q : Nat → Option Value → Hp → Prop} {p : List Instr} {ls : List (Option Value)} {r : List Value} {h : Hp} {o0 o1 o2 o3 o4 : Option Value} {w : Int64} {o : Option Value} {x : Int32} : vs d k Q (.istore 6 :: p) i (o0 :: o1 :: o2 :: o3 :: o4 :: some (.long w) :: o :: ls) (.int x :: r) h = vs d k Q p (i + 1) (o0 :: o1 :: o2 :: o3 :: o4 :: none :: some (.int x) :: ls) r h := by
  show (6 < _ ∧ _) = _
  simp [ps1, ps0, Value.category]
theorem vs_astore6l {d k i : Nat} {Q : Nat → Option Value → Hp → Prop} {p : List Instr} {ls : List (Option Value)} {r : List Value} {h : Hp} {o0 o1 o2 o3 o4 : Option Value} {w : Int64} {o : Option Value} {x : Nat} : vs d k Q (.astore 6 :: p) i (o0 :: o1 :: o2 :: o3 :: o4 :: some (.long w) :: o :: ls) (.ref x :: r) h = vs d k Q p (i + 1) (o0 :: o1 :: o2 :: o3 :: o4 :: none :: some (.ref x) :: ls) r h := by
  show (6 < _ ∧ _) = _
  simp [ps1, ps0, Value.category]
theorem vs_lstore6l {d k i : Nat} {Q : Nat → Option Value → Hp → Prop} {p : List Instr} {ls : List (Option Value)} {r : List Value} {h : Hp} {o0 o1 o2 o3 o4 : Option Value} {w : Int64} {o o9 : Option Value} {x : Int64} : vs d k Q (.lstore 6 :: p) i (o0 :: o1 :: o2 :: o3 :: o4 :: some (.long w) :: o :: o9 :: ls) (.long x :: r) h = vs d k Q p (i + 1) (o0 :: o1 :: o2 :: o3 :: o4 :: none :: some (.long x) :: none :: ls) r h := by
  show (7 < _ ∧ _) = _
  simp [ps2, ps0, Value.category]
theorem vs_iinc6l {d k i : Nat} {Q : Nat → Option Value → Hp → Prop} {p : List Instr} {ls : List (Option Value)} {st : List Value} {h : Hp} {o0 o1 o2 o3 o4 : Option Value} {w : Int64} {c : Int} {x : Int32} : vs d k Q (.iinc 6 c :: p) i (o0 :: o1 :: o2 :: o3 :: o4 :: some (.long w) :: some (.int x) :: ls) st h = vs d k Q p (i + 1) (o0 :: o1 :: o2 :: o3 :: o4 :: none :: some (.int (x + Int32.ofInt c)) :: ls) st h := by
  show vs d k Q p (i + 1) _ st h = _
  simp [ps1, ps0, Value.category]
theorem vs_iload7 {d k i : Nat} {Q : Nat → Option Value → Hp → Prop} {p : List Instr} {ls : List (Option Value)} {st : List Value} {h : Hp} {o0 o1 o2 o3 o4 o5 o6 : Option Value} {x : Int32} : vs d k Q (.iload 7 :: p) i (o0 :: o1 :: o2 :: o3 :: o4 :: o5 :: o6 :: some (.int x) :: ls) st h = vs d k Q p (i + 1) (o0 :: o1 :: o2 :: o3 :: o4 :: o5 :: o6 :: some (.int x) :: ls) (.int x :: st) h := rfl
theorem vs_lload7 {d k i : Nat} {Q : Nat → Option Value → Hp → Prop} {p : List Instr} {ls : List (Option Value)} {st : List Value} {h : Hp} {o0 o1 o2 o3 o4 o5 o6 : Option Value} {x : Int64} : vs d k Q (.lload 7 :: p) i (o0 :: o1 :: o2 :: o3 :: o4 :: o5 :: o6 :: some (.long x) :: ls) st h = vs d k Q p (i + 1) (o0 :: o1 :: o2 :: o3 :: o4 :: o5 :: o6 :: some (.long x) :: ls) (.long x :: st) h := rfl
theorem vs_aload7 {d k i : Nat} {Q : Nat → Option Value → Hp → Prop} {p : List Instr} {ls : List (Option Value)} {st : List Value} {h : Hp} {o0 o1 o2 o3 o4 o5 o6 : Option Value} {x : Nat} : vs d k Q (.aload 7 :: p) i (o0 :: o1 :: o2 :: o3 :: o4 :: o5 :: o6 :: some (.ref x) :: ls) st h = vs d k Q p (i + 1) (o0 :: o1 :: o2 :: o3 :: o4 :: o5 :: o6 :: some (.ref x) :: ls) (.ref x :: st) h := rfl
theorem vs_istore7n {d k i : Nat} {Q : Nat → Option Value → Hp → Prop} {p : List Instr} {ls : List (Option Value)} {r : List Value} {h : Hp} {o0 o1 o2 o3 o4 o5 : Option Value} {o : Option Value} {x : Int32} : vs d k Q (.istore 7 :: p) i (o0 :: o1 :: o2 :: o3 :: o4 :: o5 :: none :: o :: ls) (.int x :: r) h = vs d k Q p (i + 1) (o0 :: o1 :: o2 :: o3 :: o4 :: o5 :: none :: some (.int x) :: ls) r h := by
  show (7 < _ ∧ _) = _
  simp [ps1, ps0, Value.category]
theorem vs_astore7n {d k i : Nat} {Q : Nat → Option Value → Hp → Prop} {p : List Instr} {ls : List (Option Value)} {r : List Value} {h : Hp} {o0 o1 o2 o3 o4 o5 : Option Value} {o : Option Value} {x : Nat} : vs d k Q (.astore 7 :: p) i (o0 :: o1 :: o2 :: o3 :: o4 :: o5 :: none :: o :: ls) (.ref x :: r) h = vs d k Q p (i + 1) (o0 :: o1 :: o2 :: o3 :: o4 :: o5 :: none :: some (.ref x) :: ls) r h := by
  show (7 < _ ∧ _) = _
  simp [ps1, ps0, Value.category]
theorem vs_lstore7n {d k i : Nat} {Q : Nat → Option Value → Hp → Prop} {p : List Instr} {ls : List (Option Value)} {r : List Value} {h : Hp} {o0 o1 o2 o3 o4 o5 : Option Value} {o o9 : Option Value} {x : Int64} : vs d k Q (.lstore 7 :: p) i (o0 :: o1 :: o2 :: o3 :: o4 :: o5 :: none :: o :: o9 :: ls) (.long x :: r) h = vs d k Q p (i + 1) (o0 :: o1 :: o2 :: o3 :: o4 :: o5 :: none :: some (.long x) :: none :: ls) r h := by
  show (8 < _ ∧ _) = _
  simp [ps2, ps0, Value.category]
theorem vs_iinc7n {d k i : Nat} {Q : Nat → Option Value → Hp → Prop} {p : List Instr} {ls : List (Option Value)} {st : List Value} {h : Hp} {o0 o1 o2 o3 o4 o5 : Option Value} {c : Int} {x : Int32} : vs d k Q (.iinc 7 c :: p) i (o0 :: o1 :: o2 :: o3 :: o4 :: o5 :: none :: some (.int x) :: ls) st h = vs d k Q p (i + 1) (o0 :: o1 :: o2 :: o3 :: o4 :: o5 :: none :: some (.int (x + Int32.ofInt c)) :: ls) st h := by
  show vs d k Q p (i + 1) _ st h = _
  simp [ps1, ps0, Value.category]
theorem vs_istore7i {d k i : Nat} {Q : Nat → Option Value → Hp → Prop} {p : List Instr} {ls : List (Option Value)} {r : List Value} {h : Hp} {o0 o1 o2 o3 o4 o5 : Option Value} {w : Int32} {o : Option Value} {x : Int32} : vs d k Q (.istore 7 :: p) i (o0 :: o1 :: o2 :: o3 :: o4 :: o5 :: some (.int w) :: o :: ls) (.int x :: r) h = vs d k Q p (i + 1) (o0 :: o1 :: o2 :: o3 :: o4 :: o5 :: some (.int w) :: some (.int x) :: ls) r h := by
  show (7 < _ ∧ _) = _
  simp [ps1, ps0, Value.category]
theorem vs_astore7i {d k i : Nat} {Q : Nat → Option Value → Hp → Prop} {p : List Instr} {ls : List (Option Value)} {r : List Value} {h : Hp} {o0 o1 o2 o3 o4 o5 : Option Value} {w : Int32} {o : Option Value} {x : Nat} : vs d k Q (.astore 7 :: p) i (o0 :: o1 :: o2 :: o3 :: o4 :: o5 :: some (.int w) :: o :: ls) (.ref x :: r) h = vs d k Q p (i + 1) (o0 :: o1 :: o2 :: o3 :: o4 :: o5 :: some (.int w) :: some (.ref x) :: ls) r h := by
  show (7 < _ ∧ _) = _
  simp [ps1, ps0, Value.category]
theorem vs_lstore7i {d k i : Nat} {Q : Nat → Option Value → Hp → Prop} {p : List Instr} {ls : List (Option Value)} {r : List Value} {h : Hp} {o0 o1 o2 o3 o4 o5 : Option Value} {w : Int32} {o o9 : Option Value} {x : Int64} : vs d k Q (.lstore 7 :: p) i (o0 :: o1 :: o2 :: o3 :: o4 :: o5 :: some (.int w) :: o :: o9 :: ls) (.long x :: r) h = vs d k Q p (i + 1) (o0 :: o1 :: o2 :: o3 :: o4 :: o5 :: some (.int w) :: some (.long x) :: none :: ls) r h := by
  show (8 < _ ∧ _) = _
  simp [ps2, ps0, Value.category]
theorem vs_iinc7i {d k i : Nat} {Q : Nat → Option Value → Hp → Prop} {p : List Instr} {ls : List (Option Value)} {st : List Value} {h : Hp} {o0 o1 o2 o3 o4 o5 : Option Value} {w : Int32} {c : Int} {x : Int32} : vs d k Q (.iinc 7 c :: p) i (o0 :: o1 :: o2 :: o3 :: o4 :: o5 :: some (.int w) :: some (.int x) :: ls) st h = vs d k Q p (i + 1) (o0 :: o1 :: o2 :: o3 :: o4 :: o5 :: some (.int w) :: some (.int (x + Int32.ofInt c)) :: ls) st h := by
  show vs d k Q p (i + 1) _ st h = _
  simp [ps1, ps0, Value.category]
theorem vs_istore7r {d k i : Nat} {Q : Nat → Option Value → Hp → Prop} {p : List Instr} {ls : List (Option Value)} {r : List Value} {h : Hp} {o0 o1 o2 o3 o4 o5 : Option Value} {w : Nat} {o : Option Value} {x : Int32} : vs d k Q (.istore 7 :: p) i (o0 :: o1 :: o2 :: o3 :: o4 :: o5 :: some (.ref w) :: o :: ls) (.int x :: r) h = vs d k Q p (i + 1) (o0 :: o1 :: o2 :: o3 :: o4 :: o5 :: some (.ref w) :: some (.int x) :: ls) r h := by
  show (7 < _ ∧ _) = _
  simp [ps1, ps0, Value.category]
theorem vs_astore7r {d k i : Nat} {Q : Nat → Option Value → Hp → Prop} {p : List Instr} {ls : List (Option Value)} {r : List Value} {h : Hp} {o0 o1 o2 o3 o4 o5 : Option Value} {w : Nat} {o : Option Value} {x : Nat} : vs d k Q (.astore 7 :: p) i (o0 :: o1 :: o2 :: o3 :: o4 :: o5 :: some (.ref w) :: o :: ls) (.ref x :: r) h = vs d k Q p (i + 1) (o0 :: o1 :: o2 :: o3 :: o4 :: o5 :: some (.ref w) :: some (.ref x) :: ls) r h := by
  show (7 < _ ∧ _) = _
  simp [ps1, ps0, Value.category]
theorem vs_lstore7r {d k i : Nat} {Q : Nat → Option Value → Hp → Prop} {p : List Instr} {ls : List (Option Value)} {r : List Value} {h : Hp} {o0 o1 o2 o3 o4 o5 : Option Value} {w : Nat} {o o9 : Option Value} {x : Int64} : vs d k Q (.lstore 7 :: p) i (o0 :: o1 :: o2 :: o3 :: o4 :: o5 :: some (.ref w) :: o :: o9 :: ls) (.long x :: r) h = vs d k Q p (i + 1) (o0 :: o1 :: o2 :: o3 :: o4 :: o5 :: some (.ref w) :: some (.long x) :: none :: ls) r h := by
  show (8 < _ ∧ _) = _
  simp [ps2, ps0, Value.category]
theorem vs_iinc7r {d k i : Nat} {Q : Nat → Option Value → Hp → Prop} {p : List Instr} {ls : List (Option Value)} {st : List Value} {h : Hp} {o0 o1 o2 o3 o4 o5 : Option Value} {w : Nat} {c : Int} {x : Int32} : vs d k Q (.iinc 7 c :: p) i (o0 :: o1 :: o2 :: o3 :: o4 :: o5 :: some (.ref w) :: some (.int x) :: ls) st h = vs d k Q p (i + 1) (o0 :: o1 :: o2 :: o3 :: o4 :: o5 :: some (.ref w) :: some (.int (x + Int32.ofInt c)) :: ls) st h := by
  show vs d k Q p (i + 1) _ st h = _
  simp [ps1, ps0, Value.category]
theorem vs_istore7l {d k i : Nat} {Q : Nat → Option Value → Hp → Prop} {p : List Instr} {ls : List (Option Value)} {r : List Value} {h : Hp} {o0 o1 o2 o3 o4 o5 : Option Value} {w : Int64} {o : Option Value} {x : Int32} : vs d k Q (.istore 7 :: p) i (o0 :: o1 :: o2 :: o3 :: o4 :: o5 :: some (.long w) :: o :: ls) (.int x :: r) h = vs d k Q p (i + 1) (o0 :: o1 :: o2 :: o3 :: o4 :: o5 :: none :: some (.int x) :: ls) r h := by
  show (7 < _ ∧ _) = _
  simp [ps1, ps0, Value.category]
theorem vs_astore7l {d k i : Nat} {Q : Nat → Option Value → Hp → Prop} {p : List Instr} {ls : List (Option Value)} {r : List Value} {h : Hp} {o0 o1 o2 o3 o4 o5 : Option Value} {w : Int64} {o : Option Value} {x : Nat} : vs d k Q (.astore 7 :: p) i (o0 :: o1 :: o2 :: o3 :: o4 :: o5 :: some (.long w) :: o :: ls) (.ref x :: r) h = vs d k Q p (i + 1) (o0 :: o1 :: o2 :: o3 :: o4 :: o5 :: none :: some (.ref x) :: ls) r h := by
  show (7 < _ ∧ _) = _
  simp [ps1, ps0, Value.category]
theorem vs_lstore7l {d k i : Nat} {Q : Nat → Option Value → Hp → Prop} {p : List Instr} {ls : List (Option Value)} {r : List Value} {h : Hp} {o0 o1 o2 o3 o4 o5 : Option Value} {w : Int64} {o o9 : Option Value} {x : Int64} : vs d k Q (.lstore 7 :: p) i (o0 :: o1 :: o2 :: o3 :: o4 :: o5 :: some (.long w) :: o :: o9 :: ls) (.long x :: r) h = vs d k Q p (i + 1) (o0 :: o1 :: o2 :: o3 :: o4 :: o5 :: none :: some (.long x) :: none :: ls) r h := by
  show (8 < _ ∧ _) = _
  simp [ps2, ps0, Value.category]
theorem vs_iinc7l {d k i : Nat} {Q : Nat → Option Value → Hp → Prop} {p : List Instr} {ls : List (Option Value)} {st : List Value} {h : Hp} {o0 o1 o2 o3 o4 o5 : Option Value} {w : Int64} {c : Int} {x : Int32} : vs d k Q (.iinc 7 c :: p) i (o0 :: o1 :: o2 :: o3 :: o4 :: o5 :: some (.long w) :: some (.int x) :: ls) st h = vs d k Q p (i + 1) (o0 :: o1 :: o2 :: o3 :: o4 :: o5 :: none :: some (.int (x + Int32.ofInt c)) :: ls) st h := by
  show vs d k Q p (i + 1) _ st h = _
  simp [ps1, ps0, Value.category]
theorem vs_iload8 {d k i : Nat} {Q : Nat → Option Value → Hp → Prop} {p : List Instr} {ls : List (Option Value)} {st : List Value} {h : Hp} {o0 o1 o2 o3 o4 o5 o6 o7 : Option Value} {x : Int32} : vs d k Q (.iload 8 :: p) i (o0 :: o1 :: o2 :: o3 :: o4 :: o5 :: o6 :: o7 :: some (.int x) :: ls) st h = vs d k Q p (i + 1) (o0 :: o1 :: o2 :: o3 :: o4 :: o5 :: o6 :: o7 :: some (.int x) :: ls) (.int x :: st) h := rfl
theorem vs_lload8 {d k i : Nat} {Q : Nat → Option Value → Hp → Prop} {p : List Instr} {ls : List (Option Value)} {st : List Value} {h : Hp} {o0 o1 o2 o3 o4 o5 o6 o7 : Option Value} {x : Int64} : vs d k Q (.lload 8 :: p) i (o0 :: o1 :: o2 :: o3 :: o4 :: o5 :: o6 :: o7 :: some (.long x) :: ls) st h = vs d k Q p (i + 1) (o0 :: o1 :: o2 :: o3 :: o4 :: o5 :: o6 :: o7 :: some (.long x) :: ls) (.long x :: st) h := rfl
theorem vs_aload8 {d k i : Nat} {Q : Nat → Option Value → Hp → Prop} {p : List Instr} {ls : List (Option Value)} {st : List Value} {h : Hp} {o0 o1 o2 o3 o4 o5 o6 o7 : Option Value} {x : Nat} : vs d k Q (.aload 8 :: p) i (o0 :: o1 :: o2 :: o3 :: o4 :: o5 :: o6 :: o7 :: some (.ref x) :: ls) st h = vs d k Q p (i + 1) (o0 :: o1 :: o2 :: o3 :: o4 :: o5 :: o6 :: o7 :: some (.ref x) :: ls) (.ref x :: st) h := rfl
theorem vs_istore8n {d k i : Nat} {Q : Nat → Option Value → Hp → Prop} {p : List Instr} {ls : List (Option Value)} {r : List Value} {h : Hp} {o0 o1 o2 o3 o4 o5 o6 : Option Value} {o : Option Value} {x : Int32} : vs d k Q (.istore 8 :: p) i (o0 :: o1 :: o2 :: o3 :: o4 :: o5 :: o6 :: none :: o :: ls) (.int x :: r) h = vs d k Q p (i + 1) (o0 :: o1 :: o2 :: o3 :: o4 :: o5 :: o6 :: none :: some (.int x) :: ls) r h := by
  show (8 < _ ∧ _) = _
  simp [ps1, ps0, Value.category]
theorem vs_astore8n {d k i : Nat} {Q : Nat → Option Value → Hp → Prop} {p : List Instr} {ls : List (Option Value)} {r : List Value} {h : Hp} {o0 o1 o2 o3 o4 o5 o6 : Option Value} {o : Option Value} {x : Nat} : vs d k Q (.astore 8 :: p) i (o0 :: o1 :: o2 :: o3 :: o4 :: o5 :: o6 :: none :: o :: ls) (.ref x :: r) h = vs d k Q p (i + 1) (o0 :: o1 :: o2 :: o3 :: o4 :: o5 :: o6 :: none :: some (.ref x) :: ls) r h := by
  show (8 < _ ∧ _) = _
  simp [ps1, ps0, Value.category]
theorem vs_lstore8n {d k i : Nat} {Q : Nat → Option Value → Hp → Prop} {p : List Instr} {ls : List (Option Value)} {r : List Value} {h : Hp} {o0 o1 o2 o3 o4 o5 o6 : Option Value} {o o9 : Option Value} {x : Int64} : vs d k Q (.lstore 8 :: p) i (o0 :: o1 :: o2 :: o3 :: o4 :: o5 :: o6 :: none :: o :: o9 :: ls) (.long x :: r) h = vs d k Q p (i + 1) (o0 :: o1 :: o2 :: o3 :: o4 :: o5 :: o6 :: none :: some (.long x) :: none :: ls) r h := by
  show (9 < _ ∧ _) = _
  simp [ps2, ps0, Value.category]
theorem vs_iinc8n {d k i : Nat} {Q : Nat → Option Value → Hp → Prop} {p : List Instr} {ls : List (Option Value)} {st : List Value} {h : Hp} {o0 o1 o2 o3 o4 o5 o6 : Option Value} {c : Int} {x : Int32} : vs d k Q (.iinc 8 c :: p) i (o0 :: o1 :: o2 :: o3 :: o4 :: o5 :: o6 :: none :: some (.int x) :: ls) st h = vs d k Q p (i + 1) (o0 :: o1 :: o2 :: o3 :: o4 :: o5 :: o6 :: none :: some (.int (x + Int32.ofInt c)) :: ls) st h := by
  show vs d k Q p (i + 1) _ st h = _
  simp [ps1, ps0, Value.category]
theorem vs_istore8i {d k i : Nat} {Q : Nat → Option Value → Hp → Prop} {p : List Instr} {ls : List (Option Value)} {r : List Value} {h : Hp} {o0 o1 o2 o3 o4 o5 o6 : Option Value} {w : Int32} {o : Option Value} {x : Int32} : vs d k Q (.istore 8 :: p) i (o0 :: o1 :: o2 :: o3 :: o4 :: o5 :: o6 :: some (.int w) :: o :: ls) (.int x :: r) h = vs d k Q p (i + 1) (o0 :: o1 :: o2 :: o3 :: o4 :: o5 :: o6 :: some (.int w) :: some (.int x) :: ls) r h := by
  show (8 < _ ∧ _) = _
  simp [ps1, ps0, Value.category]
theorem vs_astore8i {d k i : Nat} {Q : Nat → Option Value → Hp → Prop} {p : List Instr} {ls : List (Option Value)} {r : List Value} {h : Hp} {o0 o1 o2 o3 o4 o5 o6 : Option Value} {w : Int32} {o : Option Value} {x : Nat} : vs d k Q (.astore 8 :: p) i (o0 :: o1 :: o2 :: o3 :: o4 :: o5 :: o6 :: some (.int w) :: o :: ls) (.ref x :: r) h = vs d k Q p (i + 1) (o0 :: o1 :: o2 :: o3 :: o4 :: o5 :: o6 :: some (.int w) :: some (.ref x) :: ls) r h := by
  show (8 < _ ∧ _) = _
  simp [ps1, ps0, Value.category]
theorem vs_lstore8i {d k i : Nat} {Q : Nat → Option Value → Hp → Prop} {p : List Instr} {ls : List (Option Value)} {r : List Value} {h : Hp} {o0 o1 o2 o3 o4 o5 o6 : Option Value} {w : Int32} {o o9 : Option Value} {x : Int64} : vs d k Q (.lstore 8 :: p) i (o0 :: o1 :: o2 :: o3 :: o4 :: o5 :: o6 :: some (.int w) :: o :: o9 :: ls) (.long x :: r) h = vs d k Q p (i + 1) (o0 :: o1 :: o2 :: o3 :: o4 :: o5 :: o6 :: some (.int w) :: some (.long x) :: none :: ls) r h := by
  show (9 < _ ∧ _) = _
  simp [ps2, ps0, Value.category]
theorem vs_iinc8i {d k i : Nat} {Q : Nat → Option Value → Hp → Prop} {p : List Instr} {ls : List (Option Value)} {st : List Value} {h : Hp} {o0 o1 o2 o3 o4 o5 o6 : Option Value} {w : Int32} {c : Int} {x : Int32} : vs d k Q (.iinc 8 c :: p) i (o0 :: o1 :: o2 :: o3 :: o4 :: o5 :: o6 :: some (.int w) :: some (.int x) :: ls) st h = vs d k Q p (i + 1) (o0 :: o1 :: o2 :: o3 :: o4 :: o5 :: o6 :: some (.int w) :: some (.int (x + Int32.ofInt c)) :: ls) st h := by
  show vs d k Q p (i + 1) _ st h = _
  simp [ps1, ps0, Value.category]
theorem vs_istore8r {d k i : Nat} {Q : Nat → Option Value → Hp → Prop} {p : List Instr} {ls : List (Option Value)} {r : List Value} {h : Hp} {o0 o1 o2 o3 o4 o5 o6 : Option Value} {w : Nat} {o : Option Value} {x : Int32} : vs d k Q (.istore 8 :: p) i (o0 :: o1 :: o2 :: o3 :: o4 :: o5 :: o6 :: some (.ref w) :: o :: ls) (.int x :: r) h = vs d k Q p (i + 1) (o0 :: o1 :: o2 :: o3 :: o4 :: o5 :: o6 :: some (.ref w) :: some (.int x) :: ls) r h := by
  show (8 < _ ∧ _) = _
  simp [ps1, ps0, Value.category]
theorem vs_astore8r {d k i : Nat} {Q : Nat → Option Value → Hp → Prop} {p : List Instr} {ls : List (Option Value)} {r : List Value} {h : Hp} {o0 o1 o2 o3 o4 o5 o6 : Option Value} {w : Nat} {o : Option Value} {x : Nat} : vs d k Q (.astore 8 :: p) i (o0 :: o1 :: o2 :: o3 :: o4 :: o5 :: o6 :: some (.ref w) :: o :: ls) (.ref x :: r) h = vs d k Q p (i + 1) (o0 :: o1 :: o2 :: o3 :: o4 :: o5 :: o6 :: some (.ref w) :: some (.ref x) :: ls) r h := by
  show (8 < _ ∧ _) = _
  simp [ps1, ps0, Value.category]
theorem vs_lstore8r {d k i : Nat} {Q : Nat → Option Value → Hp → Prop} {p : List Instr} {ls : List (Option Value)} {r : List Value} {h : Hp} {o0 o1 o2 o3 o4 o5 o6 : Option Value} {w : Nat} {o o9 : Option Value} {x : Int64} : vs d k Q (.lstore 8 :: p) i (o0 :: o1 :: o2 :: o3 :: o4 :: o5 :: o6 :: some (.ref w) :: o :: o9 :: ls) (.long x :: r) h = vs d k Q p (i + 1) (o0 :: o1 :: o2 :: o3 :: o4 :: o5 :: o6 :: some (.ref w) :: some (.long x) :: none :: ls) r h := by
  show (9 < _ ∧ _) = _
  simp [ps2, ps0, Value.category]
theorem vs_iinc8r {d k i : Nat} {Q : Nat → Option Value → Hp → Prop} {p : List Instr} {ls : List (Option Value)} {st : List Value} {h : Hp} {o0 o1 o2 o3 o4 o5 o6 : Option Value} {w : Nat} {c : Int} {x : Int32} : vs d k Q (.iinc 8 c :: p) i (o0 :: o1 :: o2 :: o3 :: o4 :: o5 :: o6 :: some (.ref w) :: some (.int x) :: ls) st h = vs d k Q p (i + 1) (o0 :: o1 :: o2 :: o3 :: o4 :: o5 :: o6 :: some (.ref w) :: some (.int (x + Int32.ofInt c)) :: ls) st h := by
  show vs d k Q p (i + 1) _ st h = _
  simp [ps1, ps0, Value.category]
theorem vs_istore8l {d k i : Nat} {Q : Nat → Option Value → Hp → Prop} {p : List Instr} {ls : List (Option Value)} {r : List Value} {h : Hp} {o0 o1 o2 o3 o4 o5 o6 : Option Value} {w : Int64} {o : Option Value} {x : Int32} : vs d k Q (.istore 8 :: p) i (o0 :: o1 :: o2 :: o3 :: o4 :: o5 :: o6 :: some (.long w) :: o :: ls) (.int x :: r) h = vs d k Q p (i + 1) (o0 :: o1 :: o2 :: o3 :: o4 :: o5 :: o6 :: none :: some (.int x) :: ls) r h := by
  show (8 < _ ∧ _) = _
  simp [ps1, ps0, Value.category]
theorem vs_astore8l {d k i : Nat} {Q : Nat → Option Value → Hp → Prop} {p : List Instr} {ls : List (Option Value)} {r : List Value} {h : Hp} {o0 o1 o2 o3 o4 o5 o6 : Option Value} {w : Int64} {o : Option Value} {x : Nat} : vs d k Q (.astore 8 :: p) i (o0 :: o1 :: o2 :: o3 :: o4 :: o5 :: o6 :: some (.long w) :: o :: ls) (.ref x :: r) h = vs d k Q p (i + 1) (o0 :: o1 :: o2 :: o3 :: o4 :: o5 :: o6 :: none :: some (.ref x) :: ls) r h := by
  show (8 < _ ∧ _) = _
  simp [ps1, ps0, Value.category]
theorem vs_lstore8l {d k i : Nat} {Q : Nat → Option Value → Hp → Prop} {p : List Instr} {ls : List (Option Value)} {r : List Value} {h : Hp} {o0 o1 o2 o3 o4 o5 o6 : Option Value} {w : Int64} {o o9 : Option Value} {x : Int64} : vs d k Q (.lstore 8 :: p) i (o0 :: o1 :: o2 :: o3 :: o4 :: o5 :: o6 :: some (.long w) :: o :: o9 :: ls) (.long x :: r) h = vs d k Q p (i + 1) (o0 :: o1 :: o2 :: o3 :: o4 :: o5 :: o6 :: none :: some (.long x) :: none :: ls) r h := by
  show (9 < _ ∧ _) = _
  simp [ps2, ps0, Value.category]
theorem vs_iinc8l {d k i : Nat} {Q : Nat → Option Value → Hp → Prop} {p : List Instr} {ls : List (Option Value)} {st : List Value} {h : Hp} {o0 o1 o2 o3 o4 o5 o6 : Option Value} {w : Int64} {c : Int} {x : Int32} : vs d k Q (.iinc 8 c :: p) i (o0 :: o1 :: o2 :: o3 :: o4 :: o5 :: o6 :: some (.long w) :: some (.int x) :: ls) st h = vs d k Q p (i + 1) (o0 :: o1 :: o2 :: o3 :: o4 :: o5 :: o6 :: none :: some (.int (x + Int32.ofInt c)) :: ls) st h := by
  show vs d k Q p (i + 1) _ st h = _
  simp [ps1, ps0, Value.category]
theorem vs_iload9 {d k i : Nat} {Q : Nat → Option Value → Hp → Prop} {p : List Instr} {ls : List (Option Value)} {st : List Value} {h : Hp} {o0 o1 o2 o3 o4 o5 o6 o7 o8 : Option Value} {x : Int32} : vs d k Q (.iload 9 :: p) i (o0 :: o1 :: o2 :: o3 :: o4 :: o5 :: o6 :: o7 :: o8 :: some (.int x) :: ls) st h = vs d k Q p (i + 1) (o0 :: o1 :: o2 :: o3 :: o4 :: o5 :: o6 :: o7 :: o8 :: some (.int x) :: ls) (.int x :: st) h := rfl
theorem vs_lload9 {d k i : Nat} {Q : Nat → Option Value → Hp → Prop} {p : List Instr} {ls : List (Option Value)} {st : List Value} {h : Hp} {o0 o1 o2 o3 o4 o5 o6 o7 o8 : Option Value} {x : Int64} : vs d k Q (.lload 9 :: p) i (o0 :: o1 :: o2 :: o3 :: o4 :: o5 :: o6 :: o7 :: o8 :: some (.long x) :: ls) st h = vs d k Q p (i + 1) (o0 :: o1 :: o2 :: o3 :: o4 :: o5 :: o6 :: o7 :: o8 :: some (.long x) :: ls) (.long x :: st) h := rfl
theorem vs_aload9 {d k i : Nat} {Q : Nat → Option Value → Hp → Prop} {p : List Instr} {ls : List (Option Value)} {st : List Value} {h : Hp} {o0 o1 o2 o3 o4 o5 o6 o7 o8 : Option Value} {x : Nat} : vs d k Q (.aload 9 :: p) i (o0 :: o1 :: o2 :: o3 :: o4 :: o5 :: o6 :: o7 :: o8 :: some (.ref x) :: ls) st h = vs d k Q p (i + 1) (o0 :: o1 :: o2 :: o3 :: o4 :: o5 :: o6 :: o7 :: o8 :: some (.ref x) :: ls) (.ref x :: st) h := rfl
theorem vs_istore9n {d k i : Nat} {Q : Nat → Option Value → Hp → Prop} {p : List Instr} {ls : List (Option Value)} {r : List Value} {h : Hp} {o0 o1 o2 o3 o4 o5 o6 o7 : Option Value} {o : Option Value} {x : Int32} : vs d k Q (.istore 9 :: p) i (o0 :: o1 :: o2 :: o3 :: o4 :: o5 :: o6 :: o7 :: none :: o :: ls) (.int x :: r) h = vs d k Q p (i + 1) (o0 :: o1 :: o2 :: o3 :: o4 :: o5 :: o6 :: o7 :: none :: some (.int x) :: ls) r h := by
  show (9 < _ ∧ _) = _
  simp [ps1, ps0, Value.category]
theorem vs_astore9n {d k i : Nat} {Q : Nat → Option Value → Hp → Prop} {p : List Instr} {ls : List (Option Value)} {r : List Value} {h : Hp} {o0 o1 o2 o3 o4 o5 o6 o7 : Option Value} {o : Option Value} {x : Nat} : vs d k Q (.astore 9 :: p) i (o0 :: o1 :: o2 :: o3 :: o4 :: o5 :: o6 :: o7 :: none :: o :: ls) (.ref x :: r) h = vs d k Q p (i + 1) (o0 :: o1 :: o2 :: o3 :: o4 :: o5 :: o6 :: o7 :: none :: some (.ref x) :: ls) r h := by
  show (9 < _ ∧ _) = _
  simp [ps1, ps0, Value.category]
theorem vs_lstore9n {d k i : Nat} {Q : Nat → Option Value → Hp → Prop} {p : List Instr} {ls : List (Option Value)} {r : List Value} {h : Hp} {o0 o1 o2 o3 o4 o5 o6 o7 : Option Value} {o o9 : Option Value} {x : Int64} : vs d k Q (.lstore 9 :: p) i (o0 :: o1 :: o2 :: o3 :: o4 :: o5 :: o6 :: o7 :: none :: o :: o9 :: ls) (.long x :: r) h = vs d k Q p (i + 1) (o0 :: o1 :: o2 :: o3 :: o4 :: o5 :: o6 :: o7 :: none :: some (.long x) :: none :: ls) r h := by
  show (10 < _ ∧ _) = _
  simp [ps2, ps0, Value.category]
theorem vs_iinc9n {d k i : Nat} {Q : Nat → Option Value → Hp → Prop} {p : List Instr} {ls : List (Option Value)} {st : List Value} {h : Hp} {o0 o1 o2 o3 o4 o5 o6 o7 : Option Value} {c : Int} {x : Int32} : vs d k Q (.iinc 9 c :: p) i (o0 :: o1 :: o2 :: o3 :: o4 :: o5 :: o6 :: o7 :: none :: some (.int x) :: ls) st h = vs d k Q p (i + 1) (o0 :: o1 :: o2 :: o3 :: o4 :: o5 :: o6 :: o7 :: none :: some (.int (x + Int32.ofInt c)) :: ls) st h := by
  show vs d k Q p (i + 1) _ st h = _
  simp [ps1, ps0, Value.category]
theorem vs_istore9i {d k i : Nat} {Q : Nat → Option Value → Hp → Prop} {p : List Instr} {ls : List (Option Value)} {r : List Value} {h : Hp} {o0 o1 o2 o3 o4 o5 o6 o7 : Option Value} {w : Int32} {o : Option Value} {x : Int32} : vs d k Q (.istore 9 :: p) i (o0 :: o1 :: o2 :: o3 :: o4 :: o5 :: o6 :: o7 :: some (.int w) :: o :: ls) (.int x :: r) h = vs d k Q p (i + 1) (o0 :: o1 :: o2 :: o3 :: o4 :: o5 :: o6 :: o7 :: some (.int w) :: some (.int x) :: ls) r h := by
  show (9 < _ ∧ _) = _
  simp [ps1, ps0, Value.category]
theorem vs_astore9i {d k i : Nat} {Q : Nat → Option Value → Hp → Prop} {p : List Instr} {ls : List (Option Value)} {r : List Value} {h : Hp} {o0 o1 o2 o3 o4 o5 o6 o7 : Option Value} {w : Int32} {o : Option Value} {x : Nat} : vs d k Q (.astore 9 :: p) i (o0 :: o1 :: o2 :: o3 :: o4 :: o5 :: o6 :: o7 :: some (.int w) :: o :: ls) (.ref x :: r) h = vs d k Q p (i + 1) (o0 :: o1 :: o2 :: o3 :: o4 :: o5 :: o6 :: o7 :: some (.int w) :: some (.ref x) :: ls) r h := by
  show (9 < _ ∧ _) = _
  simp [ps1, ps0, Value.category]
theorem vs_lstore9i {d k i : Nat} {Q : Nat → Option Value → Hp → Prop} {p : List Instr} {ls : List (Option Value)} {r : List Value} {h : Hp} {o0 o1 o2 o3 o4 o5 o6 o7 : Option Value} {w : Int32} {o o9 : Option Value} {x : Int64} : vs d k Q (.lstore 9 :: p) i (o0 :: o1 :: o2 :: o3 :: o4 :: o5 :: o6 :: o7 :: some (.int w) :: o :: o9 :: ls) (.long x :: r) h = vs d k Q p (i + 1) (o0 :: o1 :: o2 :: o3 :: o4 :: o5 :: o6 :: o7 :: some (.int w) :: some (.long x) :: none :: ls) r h := by
  show (10 < _ ∧ _) = _
  simp [ps2, ps0, Value.category]
theorem vs_iinc9i {d k i : Nat} {Q : Nat → Option Value → Hp → Prop} {p : List Instr} {ls : List (Option Value)} {st : List Value} {h : Hp} {o0 o1 o2 o3 o4 o5 o6 o7 : Option Value} {w : Int32} {c : Int} {x : Int32} : vs d k Q (.iinc 9 c :: p) i (o0 :: o1 :: o2 :: o3 :: o4 :: o5 :: o6 :: o7 :: some (.int w) :: some (.int x) :: ls) st h = vs d k Q p (i + 1) (o0 :: o1 :: o2 :: o3 :: o4 :: o5 :: o6 :: o7 :: some (.int w) :: some (.int (x + Int32.ofInt c)) :: ls) st h := by
  show vs d k Q p (i + 1) _ st h = _
  simp [ps1, ps0, Value.category]
theorem vs_istore9r {d k i : Nat} {Q : Nat → Option Value → Hp → Prop} {p : List Instr} {ls : List (Option Value)} {r : List Value} {h : Hp} {o0 o1 o2 o3 o4 o5 o6 o7 : Option Value} {w : Nat} {o : Option Value} {x : Int32} : vs d k Q (.istore 9 :: p) i (o0 :: o1 :: o2 :: o3 :: o4 :: o5 :: o6 :: o7 :: some (.ref w) :: o :: ls) (.int x :: r) h = vs d k Q p (i + 1) (o0 :: o1 :: o2 :: o3 :: o4 :: o5 :: o6 :: o7 :: some (.ref w) :: some (.int x) :: ls) r h := by
  show (9 < _ ∧ _) = _
  simp [ps1, ps0, Value.category]
theorem vs_astore9r {d k i : Nat} {Q : Nat → Option Value → Hp → Prop} {p : List Instr} {ls : List (Option Value)} {r : List Value} {h : Hp} {o0 o1 o2 o3 o4 o5 o6 o7 : Option Value} {w : Nat} {o : Option Value} {x : Nat} : vs d k Q (.astore 9 :: p) i (o0 :: o1 :: o2 :: o3 :: o4 :: o5 :: o6 :: o7 :: some (.ref w) :: o :: ls) (.ref x :: r) h = vs d k Q p (i + 1) (o0 :: o1 :: o2 :: o3 :: o4 :: o5 :: o6 :: o7 :: some (.ref w) :: some (.ref x) :: ls) r h := by
  show (9 < _ ∧ _) = _
  simp [ps1, ps0, Value.category]
theorem vs_lstore9r {d k i : Nat} {Q : Nat → Option Value → Hp → Prop} {p : List Instr} {ls : List (Option Value)} {r : List Value} {h : Hp} {o0 o1 o2 o3 o4 o5 o6 o7 : Option Value} {w : Nat} {o o9 : Option Value} {x : Int64} : vs d k Q (.lstore 9 :: p) i (o0 :: o1 :: o2 :: o3 :: o4 :: o5 :: o6 :: o7 :: some (.ref w) :: o :: o9 :: ls) (.long x :: r) h = vs d k Q p (i + 1) (o0 :: o1 :: o2 :: o3 :: o4 :: o5 :: o6 :: o7 :: some (.ref w) :: some (.long x) :: none :: ls) r h := by
  show (10 < _ ∧ _) = _
  simp [ps2, ps0, Value.category]
theorem vs_iinc9r {d k i : Nat} {Q : Nat → Option Value → Hp → Prop} {p : List Instr} {ls : List (Option Value)} {st : List Value} {h : Hp} {o0 o1 o2 o3 o4 o5 o6 o7 : Option Value} {w : Nat} {c : Int} {x : Int32} : vs d k Q (.iinc 9 c :: p) i (o0 :: o1 :: o2 :: o3 :: o4 :: o5 :: o6 :: o7 :: some (.ref w) :: some (.int x) :: ls) st h = vs d k Q p (i + 1) (o0 :: o1 :: o2 :: o3 :: o4 :: o5 :: o6 :: o7 :: some (.ref w) :: some (.int (x + Int32.ofInt c)) :: ls) st h := by
  show vs d k Q p (i + 1) _ st h = _
  simp [ps1, ps0, Value.category]
theorem vs_istore9l {d k i : Nat} {Q : Nat → Option Value → Hp → Prop} {p : List Instr} {ls : List (Option Value)} {r : List Value} {h : Hp} {o0 o1 o2 o3 o4 o5 o6 o7 : Option Value} {w : Int64} {o : Option Value} {x : Int32} : vs d k Q (.istore 9 :: p) i (o0 :: o1 :: o2 :: o3 :: o4 :: o5 :: o6 :: o7 :: some (.long w) :: o :: ls) (.int x :: r) h = vs d k Q p (i + 1) (o0 :: o1 :: o2 :: o3 :: o4 :: o5 :: o6 :: o7 :: none :: some (.int x) :: ls) r h := by
  show (9 < _ ∧ _) = _
  simp [ps1, ps0, Value.category]
theorem vs_astore9l {d k i : Nat} {Q : Nat → Option Value → Hp → Prop} {p : List Instr} {ls : List (Option Value)} {r : List Value} {h : Hp} {o0 o1 o2 o3 o4 o5 o6 o7 : Option Value} {w : Int64} {o : Option Value} {x : Nat} : vs d k Q (.astore 9 :: p) i (o0 :: o1 :: o2 :: o3 :: o4 :: o5 :: o6 :: o7 :: some (.long w) :: o :: ls) (.ref x :: r) h = vs d k Q p (i + 1) (o0 :: o1 :: o2 :: o3 :: o4 :: o5 :: o6 :: o7 :: none :: some (.ref x) :: ls) r h := by
  show (9 < _ ∧ _) = _
  simp [ps1, ps0, Value.category]
theorem vs_lstore9l {d k i : Nat} {Q : Nat → Option Value → Hp → Prop} {p : List Instr} {ls : List (Option Value)} {r : List Value} {h : Hp} {o0 o1 o2 o3 o4 o5 o6 o7 : Option Value} {w : Int64} {o o9 : Option Value} {x : Int64} : vs d k Q (.lstore 9 :: p) i (o0 :: o1 :: o2 :: o3 :: o4 :: o5 :: o6 :: o7 :: some (.long w) :: o :: o9 :: ls) (.long x :: r) h = vs d k Q p (i + 1) (o0 :: o1 :: o2 :: o3 :: o4 :: o5 :: o6 :: o7 :: none :: some (.long x) :: none :: ls) r h := by
  show (10 < _ ∧ _) = _
  simp [ps2, ps0, Value.category]
theorem vs_iinc9l {d k i : Nat} {Q : Nat → Option Value → Hp → Prop} {p : List Instr} {ls : List (Option Value)} {st : List Value} {h : Hp} {o0 o1 o2 o3 o4 o5 o6 o7 : Option Value} {w : Int64} {c : Int} {x : Int32} : vs d k Q (.iinc 9 c :: p) i (o0 :: o1 :: o2 :: o3 :: o4 :: o5 :: o6 :: o7 :: some (.long w) :: some (.int x) :: ls) st h = vs d k Q p (i + 1) (o0 :: o1 :: o2 :: o3 :: o4 :: o5 :: o6 :: o7 :: none :: some (.int (x + Int32.ofInt c)) :: ls) st h := by
  show vs d k Q p (i + 1) _ st h = _
  simp [ps1, ps0, Value.category]
theorem vs_iload10 {d k i : Nat} {Q : Nat → Option Value → Hp → Prop} {p : List Instr} {ls : List (Option Value)} {st : List Value} {h : Hp} {o0 o1 o2 o3 o4 o5 o6 o7 o8 o9 : Option Value} {x : Int32} : vs d k Q (.iload 10 :: p) i (o0 :: o1 :: o2 :: o3 :: o4 :: o5 :: o6 :: o7 :: o8 :: o9 :: some (.int x) :: ls) st h = vs d k Q p (i + 1) (o0 :: o1 :: o2 :: o3 :: o4 :: o5 :: o6 :: o7 :: o8 :: o9 :: some (.int x) :: ls) (.int x :: st) h := rfl
theorem vs_lload10 {d k i : Nat} {Q : Nat → Option Value → Hp → Prop} {p : List Instr} {ls : List (Option Value)} {st : List Value} {h : Hp} {o0 o1 o2 o3 o4 o5 o6 o7 o8 o9 : Option Value} {x : Int64} : vs d k Q (.lload 10 :: p) i (o0 :: o1 :: o2 :: o3 :: o4 :: o5 :: o6 :: o7 :: o8 :: o9 :: some (.long x) :: ls) st h = vs d k Q p (i + 1) (o0 :: o1 :: o2 :: o3 :: o4 :: o5 :: o6 :: o7 :: o8 :: o9 :: some (.long x) :: ls) (.long x :: st) h := rfl
theorem vs_aload10 {d k i : Nat} {Q : Nat → Option Value → Hp → Prop} {p : List Instr} {ls : List (Option Value)} {st : List Value} {h : Hp} {o0 o1 o2 o3 o4 o5 o6 o7 o8 o9 : Option Value} {x : Nat} : vs d k Q (.aload 10 :: p) i (o0 :: o1 :: o2 :: o3 :: o4 :: o5 :: o6 :: o7 :: o8 :: o9 :: some (.ref x) :: ls) st h = vs d k Q p (i + 1) (o0 :: o1 :: o2 :: o3 :: o4 :: o5 :: o6 :: o7 :: o8 :: o9 :: some (.ref x) :: ls) (.ref x :: st) h := rfl
theorem vs_istore10n {d k i : Nat} {Q : Nat → Option Value → Hp → Prop} {p : List Instr} {ls : List (Option Value)} {r : List Value} {h : Hp} {o0 o1 o2 o3 o4 o5 o6 o7 o8 : Option Value} {o : Option Value} {x : Int32} : vs d k Q (.istore 10 :: p) i (o0 :: o1 :: o2 :: o3 :: o4 :: o5 :: o6 :: o7 :: o8 :: none :: o :: ls) (.int x :: r) h = vs d k Q p (i + 1) (o0 :: o1 :: o2 :: o3 :: o4 :: o5 :: o6 :: o7 :: o8 :: none :: some (.int x) :: ls) r h := by
  show (10 < _ ∧ _) = _
  simp [ps1, ps0, Value.category]
theorem vs_astore10n {d k i : Nat} {Q : Nat → Option Value → Hp → Prop} {p : List Instr} {ls : List (Option Value)} {r : List Value} {h : Hp} {o0 o1 o2 o3 o4 o5 o6 o7 o8 : Option Value} {o : Option Value} {x : Nat} : vs d k Q (.astore 10 :: p) i (o0 :: o1 :: o2 :: o3 :: o4 :: o5 :: o6 :: o7 :: o8 :: none :: o :: ls) (.ref x :: r) h = vs d k Q p (i + 1) (o0 :: o1 :: o2 :: o3 :: o4 :: o5 :: o6 :: o7 :: o8 :: none :: some (.ref x) :: ls) r h := by
  show (10 < _ ∧ _) = _
  simp [ps1, ps0, Value.category]
theorem vs_lstore10n {d k i : Nat} {Q : Nat → Option Value → Hp → Prop} {p : List Instr} {ls : List (Option Value)} {r : List Value} {h : Hp} {o0 o1 o2 o3 o4 o5 o6 o7 o8 : Option Value} {o o9 : Option Value} {x : Int64} : vs d k Q (.lstore 10 :: p) i (o0 :: o1 :: o2 :: o3 :: o4 :: o5 :: o6 :: o7 :: o8 :: none :: o :: o9 :: ls) (.long x :: r) h = vs d k Q p (i + 1) (o0 :: o1 :: o2 :: o3 :: o4 :: o5 :: o6 :: o7 :: o8 :: none :: some (.long x) :: none :: ls) r h := by
  show (11 < _ ∧ _) = _
  simp [ps2, ps0, Value.category]
theorem vs_iinc10n {d k i : Nat} {Q : Nat → Option Value → Hp → Prop} {p : List Instr} {ls : List (Option Value)} {st : List Value} {h : Hp} {o0 o1 o2 o3 o4 o5 o6 o7 o8 : Option Value} {c : Int} {x : Int32} : vs d k Q (.iinc 10 c :: p) i (o0 :: o1 :: o2 :: o3 :: o4 :: o5 :: o6 :: o7 :: o8 :: none :: some (.int x) :: ls) st h = vs d k Q p (i + 1) (o0 :: o1 :: o2 :: o3 :: o4 :: o5 :: o6 :: o7 :: o8 :: none :: some (.int (x + Int32.ofInt c)) :: ls) st h := by
  show vs d k Q p (i + 1) _ st h = _
  simp [ps1, ps0, Value.category]
theorem vs_istore10i {d k i : Nat} {Q : Nat → Option Value → Hp → Prop} {p : List Instr} {ls : List (Option Value)} {r : List Value} {h : Hp} {o0 o1 o2 o3 o4 o5 o6 o7 o8 : Option Value} {w : Int32} {o : Option Value} {x : Int32} : vs d k Q (.istore 10 :: p) i (o0 :: o1 :: o2 :: o3 :: o4 :: o5 :: o6 :: o7 :: o8 :: some (.int w) :: o :: ls) (.int x :: r) h = vs d k Q p (i + 1) (o0 :: o1 :: o2 :: o3 :: o4 :: o5 :: o6 :: o7 :: o8 :: some (.int w) :: some (.int x) :: ls) r h := by
  show (10 < _ ∧ _) = _
  simp [ps1, ps0, Value.category]
theorem vs_astore10i {d k i : Nat} {Q : Nat → Option Value → Hp → Prop} {p : List Instr} {ls : List (Option Value)} {r : List Value} {h : Hp} {o0 o1 o2 o3 o4 o5 o6 o7 o8 : Option Value} {w : Int32} {o : Option Value} {x : Nat} : vs d k Q (.astore 10 :: p) i (o0 :: o1 :: o2 :: o3 :: o4 :: o5 :: o6 :: o7 :: o8 :: some (.int w) :: o :: ls) (.ref x :: r) h = vs d k Q p (i + 1) (o0 :: o1 :: o2 :: o3 :: o4 :: o5 :: o6 :: o7 :: o8 :: some (.int w) :: some (.ref x) :: ls) r h := by
  show (10 < _ ∧ _) = _
  simp [ps1, ps0, Value.category]
theorem vs_lstore10i {d k i : Nat} {Q : Nat → Option Value → Hp → Prop} {p : List Instr} {ls : List (Option Value)} {r : List Value} {h : Hp} {o0 o1 o2 o3 o4 o5 o6 o7 o8 : Option Value} {w : Int32} {o o9 : Option Value} {x : Int64} : vs d k Q (.lstore 10 :: p) i (o0 :: o1 :: o2 :: o3 :: o4 :: o5 :: o6 :: o7 :: o8 :: some (.int w) :: o :: o9 :: ls) (.long x :: r) h = vs d k Q p (i + 1) (o0 :: o1 :: o2 :: o3 :: o4 :: o5 :: o6 :: o7 :: o8 :: some (.int w) :: some (.long x) :: none :: ls) r h := by
  show (11 < _ ∧ _) = _
  simp [ps2, ps0, Value.category]
theorem vs_iinc10i {d k i : Nat} {Q : Nat → Option Value → Hp → Prop} {p : List Instr} {ls : List (Option Value)} {st : List Value} {h : Hp} {o0 o1 o2 o3 o4 o5 o6 o7 o8 : Option Value} {w : Int32} {c : Int} {x : Int32} : vs d k Q (.iinc 10 c :: p) i (o0 :: o1 :: o2 :: o3 :: o4 :: o5 :: o6 :: o7 :: o8 :: some (.int w) :: some (.int x) :: ls) st h = vs d k Q p (i + 1) (o0 :: o1 :: o2 :: o3 :: o4 :: o5 :: o6 :: o7 :: o8 :: some (.int w) :: some (.int (x + Int32.ofInt c)) :: ls) st h := by
  show vs d k Q p (i + 1) _ st h = _
  simp [ps1, ps0, Value.category]
theorem vs_istore10r {d k i : Nat} {Q : Nat → Option Value → Hp → Prop} {p : List Instr} {ls : List (Option Value)} {r : List Value} {h : Hp} {o0 o1 o2 o3 o4 o5 o6 o7 o8 : Option Value} {w : Nat} {o : Option Value} {x : Int32} : vs d k Q (.istore 10 :: p) i (o0 :: o1 :: o2 :: o3 :: o4 :: o5 :: o6 :: o7 :: o8 :: some (.ref w) :: o :: ls) (.int x :: r) h = vs d k Q p (i + 1) (o0 :: o1 :: o2 :: o3 :: o4 :: o5 :: o6 :: o7 :: o8 :: some (.ref w) :: some (.int x) :: ls) r h := by
  show (10 < _ ∧ _) = _
  simp [ps1, ps0, Value.category]
theorem vs_astore10r {d k i : Nat} {Q : Nat → Option Value → Hp → Prop} {p : List Instr} {ls : List (Option Value)} {r : List Value} {h : Hp} {o0 o1 o2 o3 o4 o5 o6 o7 o8 : Option Value} {w : Nat} {o : Option Value} {x : Nat} : vs d k Q (.astore 10 :: p) i (o0 :: o1 :: o2 :: o3 :: o4 :: o5 :: o6 :: o7 :: o8 :: some (.ref w) :: o :: ls) (.ref x :: r) h = vs d k Q p (i + 1) (o0 :: o1 :: o2 :: o3 :: o4 :: o5 :: o6 :: o7 :: o8 :: some (.ref w) :: some (.ref x) :: ls) r h := by
  show (10 < _ ∧ _) = _
  simp [ps1, ps0, Value.category]
theorem vs_lstore10r {d k i : Nat} {Q : Nat → Option Value → Hp → Prop} {p : List Instr} {ls : List (Option Value)} {r : List Value} {h : Hp} {o0 o1 o2 o3 o4 o5 o6 o7 o8 : Option Value} {w : Nat} {o o9 : Option Value} {x : Int64} : vs d k Q (.lstore 10 :: p) i (o0 :: o1 :: o2 :: o3 :: o4 :: o5 :: o6 :: o7 :: o8 :: some (.ref w) :: o :: o9 :: ls) (.long x :: r) h = vs d k Q p (i + 1) (o0 :: o1 :: o2 :: o3 :: o4 :: o5 :: o6 :: o7 :: o8 :: some (.ref w) :: some (.long x) :: none :: ls) r h := by
  show (11 < _ ∧ _) = _
  simp [ps2, ps0, Value.category]
theorem vs_iinc10r {d k i : Nat} {Q : Nat → Option Value → Hp → Prop} {p : List Instr} {ls : List (Option Value)} {st : List Value} {h : Hp} {o0 o1 o2 o3 o4 o5 o6 o7 o8 : Option Value} {w : Nat} {c : Int} {x : Int32} : vs d k Q (.iinc 10 c :: p) i (o0 :: o1 :: o2 :: o3 :: o4 :: o5 :: o6 :: o7 :: o8 :: some (.ref w) :: some (.int x) :: ls) st h = vs d k Q p (i + 1) (o0 :: o1 :: o2 :: o3 :: o4 :: o5 :: o6 :: o7 :: o8 :: some (.ref w) :: some (.int (x + Int32.ofInt c)) :: ls) st h := by
  show vs d k Q p (i + 1) _ st h = _
  simp [ps1, ps0, Value.category]
theorem vs_istore10l {d k i : Nat} {Q : Nat → Option Value → Hp → Prop} {p : List Instr} {ls : List (Option Value)} {r : List Value} {h : Hp} {o0 o1 o2 o3 o4 o5 o6 o7 o8 : Option Value} {w : Int64} {o : Option Value} {x : Int32} : vs d k Q (.istore 10 :: p) i (o0 :: o1 :: o2 :: o3 :: o4 :: o5 :: o6 :: o7 :: o8 :: some (.long w) :: o :: ls) (.int x :: r) h = vs d k Q p (i + 1) (o0 :: o1 :: o2 :: o3 :: o4 :: o5 :: o6 :: o7 :: o8 :: none :: some (.int x) :: ls) r h := by
  show (10 < _ ∧ _) = _
  simp [ps1, ps0, Value.category]
theorem vs_astore10l {d k i : Nat} {Q : Nat → Option Value → Hp → Prop} {p : List Instr} {ls : List (Option Value)} {r : List Value} {h : Hp} {o0 o1 o2 o3 o4 o5 o6 o7 o8 : Option Value} {w : Int64} {o : Option Value} {x : Nat} : vs d k Q (.astore 10 :: p) i (o0 :: o1 :: o2 :: o3 :: o4 :: o5 :: o6 :: o7 :: o8 :: some (.long w) :: o :: ls) (.ref x :: r) h = vs d k Q p (i + 1) (o0 :: o1 :: o2 :: o3 :: o4 :: o5 :: o6 :: o7 :: o8 :: none :: some (.ref x) :: ls) r h := by
  show (10 < _ ∧ _) = _
  simp [ps1, ps0, Value.category]
theorem vs_lstore10l {d k i : Nat} {Q : Nat → Option Value → Hp → Prop} {p : List Instr} {ls : List (Option Value)} {r : List Value} {h : Hp} {o0 o1 o2 o3 o4 o5 o6 o7 o8 : Option Value} {w : Int64} {o o9 : Option Value} {x : Int64} : vs d k Q (.lstore 10 :: p) i (o0 :: o1 :: o2 :: o3 :: o4 :: o5 :: o6 :: o7 :: o8 :: some (.long w) :: o :: o9 :: ls) (.long x :: r) h = vs d k Q p (i + 1) (o0 :: o1 :: o2 :: o3 :: o4 :: o5 :: o6 :: o7 :: o8 :: none :: some (.long x) :: none :: ls) r h := by
  show (11 < _ ∧ _) = _
  simp [ps2, ps0, Value.category]
theorem vs_iinc10l {d k i : Nat} {Q : Nat → Option Value → Hp → Prop} {p : List Instr} {ls : List (Option Value)} {st : List Value} {h : Hp} {o0 o1 o2 o3 o4 o5 o6 o7 o8 : Option Value} {w : Int64} {c : Int} {x : Int32} : vs d k Q (.iinc 10 c :: p) i (o0 :: o1 :: o2 :: o3 :: o4 :: o5 :: o6 :: o7 :: o8 :: some (.long w) :: some (.int x) :: ls) st h = vs d k Q p (i + 1) (o0 :: o1 :: o2 :: o3 :: o4 :: o5 :: o6 :: o7 :: o8 :: none :: some (.int (x + Int32.ofInt c)) :: ls) st h := by
  show vs d k Q p (i + 1) _ st h = _
  simp [ps1, ps0, Value.category]
theorem vs_iload11 {d k i : Nat} {Q : Nat → Option Value → Hp → Prop} {p : List Instr} {ls : List (Option Value)} {st : List Value} {h : Hp} {o0 o1 o2 o3 o4 o5 o6 o7 o8 o9 o10 : Option Value} {x : Int32} : vs d k Q (.iload 11 :: p) i (o0 :: o1 :: o2 :: o3 :: o4 :: o5 :: o6 :: o7 :: o8 :: o9 :: o10 :: some (.int x) :: ls) st h = vs d k Q p (i + 1) (o0 :: o1 :: o2 :: o3 :: o4 :: o5 :: o6 :: o7 :: o8 :: o9 :: o10 :: some (.int x) :: ls) (.int x :: st) h := rfl
theorem vs_lload11 {d k i : Nat} {Q : Nat → Option Value → Hp → Prop} {p : List Instr} {ls : List (Option Value)} {st : List Value} {h : Hp} {o0 o1 o2 o3 o4 o5 o6 o7 o8 o9 o10 : Option Value} {x : Int64} : vs d k Q (.lload 11 :: p) i (o0 :: o1 :: o2 :: o3 :: o4 :: o5 :: o6 :: o7 :: o8 :: o9 :: o10 :: some (.long x) :: ls) st h = vs d k Q p (i + 1) (o0 :: o1 :: o2 :: o3 :: o4 :: o5 :: o6 :: o7 :: o8 :: o9 :: o10 :: some (.long x) :: ls) (.long x :: st) h := rfl
theorem vs_aload11 {d k i : Nat} {Q : Nat → Option Value → Hp → Prop} {p : List Instr} {ls : List (Option Value)} {st : List Value} {h : Hp} {o0 o1 o2 o3 o4 o5 o6 o7 o8 o9 o10 : Option Value} {x : Nat} : vs d k Q (.aload 11 :: p) i (o0 :: o1 :: o2 :: o3 :: o4 :: o5 :: o6 :: o7 :: o8 :: o9 :: o10 :: some (.ref x) :: ls) st h = vs d k Q p (i + 1) (o0 :: o1 :: o2 :: o3 :: o4 :: o5 :: o6 :: o7 :: o8 :: o9 :: o10 :: some (.ref x) :: ls) (.ref x :: st) h := rfl
theorem vs_istore11n {d k i : Nat} {Q : Nat → Option Value → Hp → Prop} {p : List Instr} {ls : List (Option Value)} {r : List Value} {h : Hp} {o0 o1 o2 o3 o4 o5 o6 o7 o8 o9 : Option Value} {o : Option Value} {x : Int32} : vs d k Q (.istore 11 :: p) i (o0 :: o1 :: o2 :: o3 :: o4 :: o5 :: o6 :: o7 :: o8 :: o9 :: none :: o :: ls) (.int x :: r) h = vs d k Q p (i + 1) (o0 :: o1 :: o2 :: o3 :: o4 :: o5 :: o6 :: o7 :: o8 :: o9 :: none :: some (.int x) :: ls) r h := by
  show (11 < _ ∧ _) = _
  simp [ps1, ps0, Value.category]
theorem vs_astore11n {d k i : Nat} {Q : Nat → Option Value → Hp → Prop} {p : List Instr} {ls : List (Option Value)} {r : List Value} {h : Hp} {o0 o1 o2 o3 o4 o5 o6 o7 o8 o9 : Option Value} {o : Option Value} {x : Nat} : vs d k Q (.astore 11 :: p) i (o0 :: o1 :: o2 :: o3 :: o4 :: o5 :: o6 :: o7 :: o8 :: o9 :: none :: o :: ls) (.ref x :: r) h = vs d k Q p (i + 1) (o0 :: o1 :: o2 :: o3 :: o4 :: o5 :: o6 :: o7 :: o8 :: o9 :: none :: some (.ref x) :: ls) r h := by
  show (11 < _ ∧ _) = _
  simp [ps1, ps0, Value.category]
theorem vs_lstore11n {d k i : Nat} {Q : Nat → Option Value → Hp → Prop} {p : List Instr} {ls : List (Option Value)} {r : List Value} {h : Hp} {o0 o1 o2 o3 o4 o5 o6 o7 o8 o9 : Option Value} {o o9 : Option Value} {x : Int64} : vs d k Q (.lstore 11 :: p) i (o0 :: o1 :: o2 :: o3 :: o4 :: o5 :: o6 :: o7 :: o8 :: o9 :: none :: o :: o9 :: ls) (.long x :: r) h = vs d k Q p (i + 1) (o0 :: o1 :: o2 :: o3 :: o4 :: o5 :: o6 :: o7 :: o8 :: o9 :: none :: some (.long x) :: none :: ls) r h := by
  show (12 < _ ∧ _) = _
  simp [ps2, ps0, Value.category]
theorem vs_iinc11n {d k i : Nat} {Q : Nat → Option Value → Hp → Prop} {p : List Instr} {ls : List (Option Value)} {st : List Value} {h : Hp} {o0 o1 o2 o3 o4 o5 o6 o7 o8 o9 : Option Value} {c : Int} {x : Int32} : vs d k Q (.iinc 11 c :: p) i (o0 :: o1 :: o2 :: o3 :: o4 :: o5 :: o6 :: o7 :: o8 :: o9 :: none :: some (.int x) :: ls) st h = vs d k Q p (i + 1) (o0 :: o1 :: o2 :: o3 :: o4 :: o5 :: o6 :: o7 :: o8 :: o9 :: none :: some (.int (x + Int32.ofInt c)) :: ls) st h := by
  show vs d k Q p (i + 1) _ st h = _
  simp [ps1, ps0, Value.category]
theorem vs_istore11i {d k i : Nat} {Q : Nat → Option Value → Hp → Prop} {p : List Instr} {ls : List (Option Value)} {r : List Value} {h : Hp} {o0 o1 o2 o3 o4 o5 o6 o7 o8 o9 : Option Value} {w : Int32} {o : Option Value} {x : Int32} : vs d k Q (.istore 11 :: p) i (o0 :: o1 :: o2 :: o3 :: o4 :: o5 :: o6 :: o7 :: o8 :: o9 :: some (.int w) :: o :: ls) (.int x :: r) h = vs d k Q p (i + 1) (o0 :: o1 :: o2 :: o3 :: o4 :: o5 :: o6 :: o7 :: o8 :: o9 :: some (.int w) :: some (.int x) :: ls) r h := by
  show (11 < _ ∧ _) = _
  simp [ps1, ps0, Value.category]
theorem vs_astore11i {d k i : Nat} {Q : Nat → Option Value → Hp → Prop} {p : List Instr} {ls : List (Option Value)} {r : List Value} {h : Hp} {o0 o1 o2 o3 o4 o5 o6 o7 o8 o9 : Option Value} {w : Int32} {o : Option Value} {x : Nat} : vs d k Q (.astore 11 :: p) i (o0 :: o1 :: o2 :: o3 :: o4 :: o5 :: o6 :: o7 :: o8 :: o9 :: some (.int w) :: o :: ls) (.ref x :: r) h = vs d k Q p (i + 1) (o0 :: o1 :: o2 :: o3 :: o4 :: o5 :: o6 :: o7 :: o8 :: o9 :: some (.int w) :: some (.ref x) :: ls) r h := by
  show (11 < _ ∧ _) = _
  simp [ps1, ps0, Value.category]
theorem vs_lstore11i {d k i : Nat} {Q : Nat → Option Value → Hp → Prop} {p : List Instr} {ls : List (Option Value)} {r : List Value} {h : Hp} {o0 o1 o2 o3 o4 o5 o6 o7 o8 o9 : Option Value} {w : Int32} {o o9 : Option Value} {x : Int64} : vs d k Q (.lstore 11 :: p) i (o0 :: o1 :: o2 :: o3 :: o4 :: o5 :: o6 :: o7 :: o8 :: o9 :: some (.int w) :: o :: o9 :: ls) (.long x :: r) h = vs d k Q p (i + 1) (o0 :: o1 :: o2 :: o3 :: o4 :: o5 :: o6 :: o7 :: o8 :: o9 :: some (.int w) :: some (.long x) :: none :: ls) r h := by
  show (12 < _ ∧ _) = _
  simp [ps2, ps0, Value.category]
theorem vs_iinc11i {d k i : Nat} {Q : Nat → Option Value → Hp → Prop} {p : List Instr} {ls : List (Option Value)} {st : List Value} {h : Hp} {o0 o1 o2 o3 o4 o5 o6 o7 o8 o9 : Option Value} {w : Int32} {c : Int} {x : Int32} : vs d k Q (.iinc 11 c :: p) i (o0 :: o1 :: o2 :: o3 :: o4 :: o5 :: o6 :: o7 :: o8 :: o9 :: some (.int w) :: some (.int x) :: ls) st h = vs d k Q p (i + 1) (o0 :: o1 :: o2 :: o3 :: o4 :: o5 :: o6 :: o7 :: o8 :: o9 :: some (.int w) :: some (.int (x + Int32.ofInt c)) :: ls) st h := by
  show vs d k Q p (i + 1) _ st h = _
  simp [ps1, ps0, Value.category]
theorem vs_istore11r {d k i : Nat} {Q : Nat → Option Value → Hp → Prop} {p : List Instr} {ls : List (Option Value)} {r : List Value} {h : Hp} {o0 o1 o2 o3 o4 o5 o6 o7 o8 o9 : Option Value} {w : Nat} {o : Option Value} {x : Int32} : vs d k Q (.istore 11 :: p) i (o0 :: o1 :: o2 :: o3 :: o4 :: o5 :: o6 :: o7 :: o8 :: o9 :: some (.ref w) :: o :: ls) (.int x :: r) h = vs d k Q p (i + 1) (o0 :: o1 :: o2 :: o3 :: o4 :: o5 :: o6 :: o7 :: o8 :: o9 :: some (.ref w) :: some (.int x) :: ls) r h := by
  show (11 < _ ∧ _) = _
  simp [ps1, ps0, Value.category]
theorem vs_astore11r {d k i : Nat} {Q : Nat → Option Value → Hp → Prop} {p : List Instr} {ls : List (Option Value)} {r : List Value} {h : Hp} {o0 o1 o2 o3 o4 o5 o6 o7 o8 o9 : Option Value} {w : Nat} {o : Option Value} {x : Nat} : vs d k Q (.astore 11 :: p) i (o0 :: o1 :: o2 :: o3 :: o4 :: o5 :: o6 :: o7 :: o8 :: o9 :: some (.ref w) :: o :: ls) (.ref x :: r) h = vs d k Q p (i + 1) (o0 :: o1 :: o2 :: o3 :: o4 :: o5 :: o6 :: o7 :: o8 :: o9 :: some (.ref w) :: some (.ref x) :: ls) r h := by
  show (11 < _ ∧ _) = _
  simp [ps1, ps0, Value.category]
theorem vs_lstore11r {d k i : Nat} {Q : Nat → Option Value → Hp → Prop} {p : List Instr} {ls : List (Option Value)} {r : List Value} {h : Hp} {o0 o1 o2 o3 o4 o5 o6 o7 o8 o9 : Option Value} {w : Nat} {o o9 : Option Value} {x : Int64} : vs d k Q (.lstore 11 :: p) i (o0 :: o1 :: o2 :: o3 :: o4 :: o5 :: o6 :: o7 :: o8 :: o9 :: some (.ref w) :: o :: o9 :: ls) (.long x :: r) h = vs d k Q p (i + 1) (o0 :: o1 :: o2 :: o3 :: o4 :: o5 :: o6 :: o7 :: o8 :: o9 :: some (.ref w) :: some (.long x) :: none :: ls) r h := by
  show (12 < _ ∧ _) = _
  simp [ps2, ps0, Value.category]
theorem vs_iinc11r {d k i : Nat} {Q : Nat → Option Value → Hp → Prop} {p : List Instr} {ls : List (Option Value)} {st : List Value} {h : Hp} {o0 o1 o2 o3 o4 o5 o6 o7 o8 o9 : Option Value} {w : Nat} {c : Int} {x : Int32} : vs d k Q (.iinc 11 c :: p) i (o0 :: o1 :: o2 :: o3 :: o4 :: o5 :: o6 :: o7 :: o8 :: o9 :: some (.ref w) :: some (.int x) :: ls) st h = vs d k Q p (i + 1) (o0 :: o1 :: o2 :: o3 :: o4 :: o5 :: o6 :: o7 :: o8 :: o9 :: some (.ref w) :: some (.int (x + Int32.ofInt c)) :: ls) st h := by
  show vs d k Q p (i + 1) _ st h = _
  simp [ps1, ps0, Value.category]
theorem vs_istore11l {d k i : Nat} {Q : Nat → Option Value → Hp → Prop} {p : List Instr} {ls : List (Option Value)} {r : List Value} {h : Hp} {o0 o1 o2 o3 o4 o5 o6 o7 o8 o9 : Option Value} {w : Int64} {o : Option Value} {x : Int32} : vs d k Q (.istore 11 :: p) i (o0 :: o1 :: o2 :: o3 :: o4 :: o5 :: o6 :: o7 :: o8 :: o9 :: some (.long w) :: o :: ls) (.int x :: r) h = vs d k Q p (i + 1) (o0 :: o1 :: o2 :: o3 :: o4 :: o5 :: o6 :: o7 :: o8 :: o9 :: none :: some (.int x) :: ls) r h := by
  show (11 < _ ∧ _) = _
  simp [ps1, ps0, Value.category]
theorem vs_astore11l {d k i : Nat} {Q : Nat → Option Value → Hp → Prop} {p : List Instr} {ls : List (Option Value)} {r : List Value} {h : Hp} {o0 o1 o2 o3 o4 o5 o6 o7 o8 o9 : Option Value} {w : Int64} {o : Option Value} {x : Nat} : vs d k Q (.astore 11 :: p) i (o0 :: o1 :: o2 :: o3 :: o4 :: o5 :: o6 :: o7 :: o8 :: o9 :: some (.long w) :: o :: ls) (.ref x :: r) h = vs d k Q p (i + 1) (o0 :: o1 :: o2 :: o3 :: o4 :: o5 :: o6 :: o7 :: o8 :: o9 :: none :: some (.ref x) :: ls) r h := by
  show (11 < _ ∧ _) = _
  simp [ps1, ps0, Value.category]
theorem vs_lstore11l {d k i : Nat} {Q : Nat → Option Value → Hp → Prop} {p : List Instr} {ls : List (Option Value)} {r : List Value} {h : Hp} {o0 o1 o2 o3 o4 o5 o6 o7 o8 o9 : Option Value} {w : Int64} {o o9 : Option Value} {x : Int64} : vs d k Q (.lstore 11 :: p) i (o0 :: o1 :: o2 :: o3 :: o4 :: o5 :: o6 :: o7 :: o8 :: o9 :: some (.long w) :: o :: o9 :: ls) (.long x :: r) h = vs d k Q p (i + 1) (o0 :: o1 :: o2 :: o3 :: o4 :: o5 :: o6 :: o7 :: o8 :: o9 :: none :: some (.long x) :: none :: ls) r h := by
  show (12 < _ ∧ _) = _
  simp [ps2, ps0, Value.category]
theorem vs_iinc11l {d k i : Nat} {Q : Nat → Option Value → Hp → Prop} {p : List Instr} {ls : List (Option Value)} {st : List Value} {h : Hp} {o0 o1 o2 o3 o4 o5 o6 o7 o8 o9 : Option Value} {w : Int64} {c : Int} {x : Int32} : vs d k Q (.iinc 11 c :: p) i (o0 :: o1 :: o2 :: o3 :: o4 :: o5 :: o6 :: o7 :: o8 :: o9 :: some (.long w) :: some (.int x) :: ls) st h = vs d k Q p (i + 1) (o0 :: o1 :: o2 :: o3 :: o4 :: o5 :: o6 :: o7 :: o8 :: o9 :: none :: some (.int (x + Int32.ofInt c)) :: ls) st h := by
  show vs d k Q p (i + 1) _ st h = _
  simp [ps1, ps0, Value.category]
theorem vs_nil {d k i : Nat} {Q : Nat → Option Value → Hp → Prop} {p : List Instr} {ls : List (Option Value)} {st : List Value} {h : Hp} : vs d k Q [] i ls st h = PW d k i ls st h Q := rfl
theorem gv_0 {h : Hp} {a j : Nat} : gv h a j 0 = .int (zI h a j) := rfl
theorem gv_1 {h : Hp} {a j : Nat} : gv h a j 1 = .long (zJ h a j) := rfl
theorem gv_2 {h : Hp} {a j : Nat} : gv h a j 2 = va_rf (zR h a j) := rfl
theorem gv_3 {h : Hp} {a j : Nat} : gv h a j 3 = .int (zI h a j) := rfl
theorem pv_0 {h : Hp} {a j : Nat} {x : Int32} : pv h a j 0 (.int x) = some (zsI h a j x) := rfl
theorem pv_1 {h : Hp} {a j : Nat} {x : Int64} : pv h a j 1 (.long x) = some (zsJ h a j x) := rfl
theorem va_rf_s {a : Nat} : va_rf (some a) = .ref a := rfl
theorem vs_ineg {d k i : Nat} {Q : Nat → Option Value → Hp → Prop} {p : List Instr} {ls : List (Option Value)} {r : List Value} {h : Hp} {x : Int32} : vs d k Q (.ineg :: p) i ls (.int x :: r) h = vs d k Q p (i + 1) ls (.int (-x) :: r) h := rfl
theorem vs_i2b {d k i : Nat} {Q : Nat → Option Value → Hp → Prop} {p : List Instr} {ls : List (Option Value)} {r : List Value} {h : Hp} {x : Int32} : vs d k Q (.i2b :: p) i ls (.int x :: r) h = vs d k Q p (i + 1) ls (.int x.toInt8.toInt32 :: r) h := rfl
theorem vs_l2i {d k i : Nat} {Q : Nat → Option Value → Hp → Prop} {p : List Instr} {ls : List (Option Value)} {r : List Value} {h : Hp} {x : Int64} : vs d k Q (.l2i :: p) i ls (.long x :: r) h = vs d k Q p (i + 1) ls (.int x.toInt32 :: r) h := rfl
theorem vs_lneg {d k i : Nat} {Q : Nat → Option Value → Hp → Prop} {p : List Instr} {ls : List (Option Value)} {r : List Value} {h : Hp} {x : Int64} : vs d k Q (.lneg :: p) i ls (.long x :: r) h = vs d k Q p (i + 1) ls (.long (-x) :: r) h := rfl
theorem vs_iand {d k i : Nat} {Q : Nat → Option Value → Hp → Prop} {p : List Instr} {ls : List (Option Value)} {r : List Value} {h : Hp} {x y : Int32} : vs d k Q (.iand :: p) i ls (.int y :: .int x :: r) h = vs d k Q p (i + 1) ls (.int (x &&& y) :: r) h := rfl
theorem vs_ior {d k i : Nat} {Q : Nat → Option Value → Hp → Prop} {p : List Instr} {ls : List (Option Value)} {r : List Value} {h : Hp} {x y : Int32} : vs d k Q (.ior :: p) i ls (.int y :: .int x :: r) h = vs d k Q p (i + 1) ls (.int (x ||| y) :: r) h := rfl
theorem vs_ixor {d k i : Nat} {Q : Nat → Option Value → Hp → Prop} {p : List Instr} {ls : List (Option Value)} {r : List Value} {h : Hp} {x y : Int32} : vs d k Q (.ixor :: p) i ls (.int y :: .int x :: r) h = vs d k Q p (i + 1) ls (.int (x ^^^ y) :: r) h := rfl
theorem vs_ishl {d k i : Nat} {Q : Nat → Option Value → Hp → Prop} {p : List Instr} {ls : List (Option Value)} {r : List Value} {h : Hp} {x y : Int32} : vs d k Q (.ishl :: p) i ls (.int y :: .int x :: r) h = vs d k Q p (i + 1) ls (.int (x <<< (y &&& 31)) :: r) h := rfl
theorem vs_ishr {d k i : Nat} {Q : Nat → Option Value → Hp → Prop} {p : List Instr} {ls : List (Option Value)} {r : List Value} {h : Hp} {x y : Int32} : vs d k Q (.ishr :: p) i ls (.int y :: .int x :: r) h = vs d k Q p (i + 1) ls (.int (x >>> (y &&& 31)) :: r) h := rfl
theorem vs_iushr {d k i : Nat} {Q : Nat → Option Value → Hp → Prop} {p : List Instr} {ls : List (Option Value)} {r : List Value} {h : Hp} {x y : Int32} : vs d k Q (.iushr :: p) i ls (.int y :: .int x :: r) h = vs d k Q p (i + 1) ls (.int ((x.toUInt32 >>> (y.toUInt32 &&& Int32.toUInt32 31)).toInt32) :: r) h := rfl
theorem vs_lor {d k i : Nat} {Q : Nat → Option Value → Hp → Prop} {p : List Instr} {ls : List (Option Value)} {r : List Value} {h : Hp} {x y : Int64} : vs d k Q (.lor :: p) i ls (.long y :: .long x :: r) h = vs d k Q p (i + 1) ls (.long (x ||| y) :: r) h := rfl
theorem vs_lshl {d k i : Nat} {Q : Nat → Option Value → Hp → Prop} {p : List Instr} {ls : List (Option Value)} {r : List Value} {h : Hp} {x : Int64} {y : Int32} : vs d k Q (.lshl :: p) i ls (.int y :: .long x :: r) h = vs d k Q p (i + 1) ls (.long (x <<< (y.toInt64 &&& 63)) :: r) h := rfl
theorem vs_popi {d k i : Nat} {Q : Nat → Option Value → Hp → Prop} {p : List Instr} {ls : List (Option Value)} {r : List Value} {h : Hp} {x : Int32} : vs d k Q (.pop :: p) i ls (.int x :: r) h = ((1 : Nat) = 1 ∧ vs d k Q p (i + 1) ls r h) := rfl
theorem vs_popr {d k i : Nat} {Q : Nat → Option Value → Hp → Prop} {p : List Instr} {ls : List (Option Value)} {r : List Value} {h : Hp} {x : Nat} : vs d k Q (.pop :: p) i ls (.ref x :: r) h = ((1 : Nat) = 1 ∧ vs d k Q p (i + 1) ls r h) := rfl
theorem vs_baload {d k i : Nat} {Q : Nat → Option Value → Hp → Prop} {p : List Instr} {ls : List (Option Value)} {r : List Value} {h : Hp} {a : Nat} {j : Int32} : vs d k Q (.baload :: p) i ls (.int j :: .ref a :: r) h = (((zK h a = 13 ∨ zK h a = 16) ∧ a < zN h ∧ inB j (zL h a) = true) ∧ vs d k Q p (i + 1) ls (.int (zI h a j.toNatClampNeg) :: r) h) := rfl
theorem vs_aastore {d k i : Nat} {Q : Nat → Option Value → Hp → Prop} {p : List Instr} {ls : List (Option Value)} {r : List Value} {h : Hp} {a b : Nat} {j : Int32} : vs d k Q (.aastore :: p) i ls (.ref b :: .int j :: .ref a :: r) h = ((zK h a = 17 ∧ a < zN h ∧ inB j (zL h a) = true ∧ zK h b = 6 ∧ b < zN h) ∧ vs d k Q p (i + 1) ls r (zsR h a j.toNatClampNeg (some b))) := rfl
theorem vs_new {d k i : Nat} {Q : Nat → Option Value → Hp → Prop} {p : List Instr} {ls : List (Option Value)} {st : List Value} {h : Hp} {y : Nat} : vs d k Q (.new y :: p) i ls st h = ((y < 13 ∧ zN h < zSC ∧ fOK (zN h) ls st = true) ∧ vs d k Q p (i + 1) ls (.ref (zN h) :: st) (zNew h y 0 (gN y))) := rfl
theorem vs_newarray {d k i : Nat} {Q : Nat → Option Value → Hp → Prop} {p : List Instr} {ls : List (Option Value)} {r : List Value} {h : Hp} {t : ArrayType} {n : Int32} : vs d k Q (.newarray t :: p) i ls (.int n :: r) h = ((13 ≤ atk t ∧ 0 ≤ n ∧ n.toNatClampNeg * 8 ≤ 536870912 ∧ zN h < zSC ∧ fOK (zN h) ls r = true) ∧ vs d k Q p (i + 1) ls (.ref (zN h) :: r) (zNew h (atk t) n.toNatClampNeg n.toNatClampNeg)) := rfl
theorem vs_anewarray {d k i : Nat} {Q : Nat → Option Value → Hp → Prop} {p : List Instr} {ls : List (Option Value)} {r : List Value} {h : Hp} {y : Nat} {n : Int32} : vs d k Q (.anewarray y :: p) i ls (.int n :: r) h = ((13 ≤ y ∧ 0 ≤ n ∧ n.toNatClampNeg * 8 ≤ 536870912 ∧ zN h < zSC ∧ fOK (zN h) ls r = true) ∧ vs d k Q p (i + 1) ls (.ref (zN h) :: r) (zNew h y n.toNatClampNeg n.toNatClampNeg)) := rfl
theorem vs_tableswitch {d k i : Nat} {Q : Nat → Option Value → Hp → Prop} {p : List Instr} {ls : List (Option Value)} {r : List Value} {h : Hp} {d0 lo hi : Int} {o : Array Int} {x : Int32} : vs d k Q (.tableswitch d0 lo hi o :: p) i ls (.int x :: r) h = PW d k (swt d0 lo hi o x) ls r h Q := rfl
theorem vs_abs {d k i : Nat} {Q : Nat → Option Value → Hp → Prop} {p : List Instr} {ls : List (Option Value)} {r : List Value} {h : Hp} {x : Int64} : vs d k Q (.invokedynamic 1 :: p) i ls (.long x :: r) h = (catS r ≤ 8 ∧ vs d k Q p (i + 1) ls (.long (if 0 < x then x else -x) :: r) h) := rfl
theorem vs_max {d k i : Nat} {Q : Nat → Option Value → Hp → Prop} {p : List Instr} {ls : List (Option Value)} {r : List Value} {h : Hp} {x y : Int32} : vs d k Q (.invokedynamic 2 :: p) i ls (.int y :: .int x :: r) h = (catS r ≤ 8 ∧ vs d k Q p (i + 1) ls (.int (if x < y then y else x) :: r) h) := rfl
theorem vs_min {d k i : Nat} {Q : Nat → Option Value → Hp → Prop} {p : List Instr} {ls : List (Option Value)} {r : List Value} {h : Hp} {x y : Int32} : vs d k Q (.invokedynamic 3 :: p) i ls (.int y :: .int x :: r) h = (catS r ≤ 8 ∧ vs d k Q p (i + 1) ls (.int (if y < x then y else x) :: r) h) := rfl
theorem vs_oinit {d k i : Nat} {Q : Nat → Option Value → Hp → Prop} {p : List Instr} {ls : List (Option Value)} {r : List Value} {h : Hp} {x : Nat} : vs d k Q (.invokedynamic 4 :: p) i ls (.ref x :: r) h = (catS r ≤ 8 ∧ vs d k Q p (i + 1) ls r h) := rfl
