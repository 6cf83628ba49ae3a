/-! what stays; and any one step -/
theorem KP_I {h : Hp} {a j : Nat} {v : Int32} (hn : zN h ≤ zSC) (ha : a < zN h) : KP h (zsI h a j v) := ⟨hn, zsI_o (by omega), rfl, Nat.le_refl _, Nat.le_refl _, Nat.le_refl _⟩
theorem KP_J {h : Hp} {a j : Nat} {v : Int64} (hn : zN h ≤ zSC) : KP h (zsJ h a j v) := ⟨hn, rfl, rfl, Nat.le_refl _, Nat.le_refl _, Nat.le_refl _⟩
theorem KP_R {h : Hp} {a j : Nat} {v : Option Nat} (hn : zN h ≤ zSC) : KP h (zsR h a j v) := ⟨hn, rfl, rfl, Nat.le_refl _, Nat.le_refl _, Nat.le_refl _⟩
theorem KP_new {h : Hp} {k n s : Nat} (hn : zN h < zSC) : KP h (zNew h k n s) := ⟨hn, by show u1 (zI h) (zN h) _ zSC = _; unfold u1; rw [if_neg (by omega)], by show u1 (zL h) (zN h) _ zSC = _; unfold u1; rw [if_neg (by omega)], Nat.le_succ _, Nat.le_succ _, Nat.le_add_right _ _⟩
theorem KP_cpy {h : Hp} {a b sp dp n : Nat} (hn : zN h ≤ zSC) (ha : b < zN h) : KP h (zCpy h a b sp dp n) := ⟨hn, by show u1 (zI h) b _ zSC = _; unfold u1; rw [if_neg (by omega)], rfl, Nat.le_refl _, Nat.le_refl _, Nat.le_refl _⟩
theorem KP_thr {h : Hp} (hn : zN h ≤ zSC) : KP h (zThr h) := ⟨hn, rfl, rfl, Nat.le_refl _, Nat.le_succ _, Nat.le_add_right _ _⟩
set_option maxRecDepth 100000 in
set_option maxHeartbeats 4000000 in
theorem ex1_keep {ins : Instr} {i i' : Nat} {ls ls' : List (Option Value)} {st st' : List Value} {h h' : Hp} (hx : ex1 i ins ls st h = some (i', ls', st', h')) (hn : zN h ≤ zSC) : KP h h' := by
  cases ins
  case iload n =>
    dsimp only [ex1, xLdI] at hx
    repeat' split at hx
    all_goals (cases hx <;> exact KP.rf hn)
  case lload n =>
    dsimp only [ex1, xLdL] at hx
    repeat' split at hx
    all_goals (cases hx <;> exact KP.rf hn)
  case aload n =>
    dsimp only [ex1, xLdA] at hx
    repeat' split at hx
    all_goals (cases hx <;> exact KP.rf hn)
  case istore n =>
    dsimp only [ex1, xStI] at hx
    repeat' split at hx
    all_goals (cases hx <;> exact KP.rf hn)
  case lstore n =>
    dsimp only [ex1, xStL] at hx
    repeat' split at hx
    all_goals (cases hx <;> exact KP.rf hn)
  case astore n =>
    dsimp only [ex1, xStA] at hx
    repeat' split at hx
    all_goals (cases hx <;> exact KP.rf hn)
  case iinc n c =>
    dsimp only [ex1, xInc] at hx
    repeat' split at hx
    all_goals (cases hx <;> exact KP.rf hn)
  case iadd =>
    dsimp only [ex1, xI2] at hx
    repeat' split at hx
    all_goals (cases hx <;> exact KP.rf hn)
  case isub =>
    dsimp only [ex1, xI2] at hx
    repeat' split at hx
    all_goals (cases hx <;> exact KP.rf hn)
  case imul =>
    dsimp only [ex1, xI2] at hx
    repeat' split at hx
    all_goals (cases hx <;> exact KP.rf hn)
  case iand =>
    dsimp only [ex1, xI2] at hx
    repeat' split at hx
    all_goals (cases hx <;> exact KP.rf hn)
  case ior =>
    dsimp only [ex1, xI2] at hx
    repeat' split at hx
    all_goals (cases hx <;> exact KP.rf hn)
  case ixor =>
    dsimp only [ex1, xI2] at hx
    repeat' split at hx
    all_goals (cases hx <;> exact KP.rf hn)
  case ishl =>
    dsimp only [ex1, xI2] at hx
    repeat' split at hx
    all_goals (cases hx <;> exact KP.rf hn)
  case ishr =>
    dsimp only [ex1, xI2] at hx
    repeat' split at hx
    all_goals (cases hx <;> exact KP.rf hn)
  case iushr =>
    dsimp only [ex1, xI2] at hx
    repeat' split at hx
    all_goals (cases hx <;> exact KP.rf hn)
  case idiv =>
    dsimp only [ex1, xI2z] at hx
    repeat' split at hx
    all_goals (cases hx <;> exact KP.rf hn)
  case irem =>
    dsimp only [ex1, xI2z] at hx
    repeat' split at hx
    all_goals (cases hx <;> exact KP.rf hn)
  case ineg =>
    dsimp only [ex1, xI1] at hx
    repeat' split at hx
    all_goals (cases hx <;> exact KP.rf hn)
  case i2l =>
    dsimp only [ex1, xI1] at hx
    repeat' split at hx
    all_goals (cases hx <;> exact KP.rf hn)
  case i2b =>
    dsimp only [ex1, xI1] at hx
    repeat' split at hx
    all_goals (cases hx <;> exact KP.rf hn)
  case l2i =>
    dsimp only [ex1, xL1] at hx
    repeat' split at hx
    all_goals (cases hx <;> exact KP.rf hn)
  case lneg =>
    dsimp only [ex1, xL1] at hx
    repeat' split at hx
    all_goals (cases hx <;> exact KP.rf hn)
  case ladd =>
    dsimp only [ex1, xL2] at hx
    repeat' split at hx
    all_goals (cases hx <;> exact KP.rf hn)
  case lsub =>
    dsimp only [ex1, xL2] at hx
    repeat' split at hx
    all_goals (cases hx <;> exact KP.rf hn)
  case lmul =>
    dsimp only [ex1, xL2] at hx
    repeat' split at hx
    all_goals (cases hx <;> exact KP.rf hn)
  case lor =>
    dsimp only [ex1, xL2] at hx
    repeat' split at hx
    all_goals (cases hx <;> exact KP.rf hn)
  case ldiv =>
    dsimp only [ex1, xL2z] at hx
    repeat' split at hx
    all_goals (cases hx <;> exact KP.rf hn)
  case lrem =>
    dsimp only [ex1, xL2z] at hx
    repeat' split at hx
    all_goals (cases hx <;> exact KP.rf hn)
  case lshl =>
    dsimp only [ex1, xLsh] at hx
    repeat' split at hx
    all_goals (cases hx <;> exact KP.rf hn)
  case lcmp =>
    dsimp only [ex1, xCmp] at hx
    repeat' split at hx
    all_goals (cases hx <;> exact KP.rf hn)
  case dup =>
    dsimp only [ex1, xDup] at hx
    repeat' split at hx
    all_goals (cases hx <;> exact KP.rf hn)
  case dup2 =>
    dsimp only [ex1, xDup2] at hx
    repeat' split at hx
    all_goals (cases hx <;> exact KP.rf hn)
  case pop =>
    dsimp only [ex1, xPop] at hx
    repeat' split at hx
    all_goals (cases hx <;> exact KP.rf hn)
  case if_icmp c t =>
    dsimp only [ex1, xBr2] at hx
    repeat' split at hx
    all_goals (cases hx <;> exact KP.rf hn)
  case ifCond c t =>
    dsimp only [ex1, xBr1] at hx
    repeat' split at hx
    all_goals (cases hx <;> exact KP.rf hn)
  case tableswitch d lo hi o =>
    dsimp only [ex1, xSw] at hx
    repeat' split at hx
    all_goals (cases hx <;> exact KP.rf hn)
  case getfield c =>
    dsimp only [ex1, xGet] at hx
    repeat' split at hx
    all_goals (cases hx <;> exact KP.rf hn)
  case iaload =>
    dsimp only [ex1, xIal] at hx
    repeat' split at hx
    all_goals (cases hx <;> exact KP.rf hn)
  case laload =>
    dsimp only [ex1, xJal] at hx
    repeat' split at hx
    all_goals (cases hx <;> exact KP.rf hn)
  case baload =>
    dsimp only [ex1, xBal] at hx
    repeat' split at hx
    all_goals (cases hx <;> exact KP.rf hn)
  case aaload =>
    dsimp only [ex1, xAal] at hx
    repeat' split at hx
    all_goals (cases hx <;> exact KP.rf hn)
  case arraylength =>
    dsimp only [ex1, xLen] at hx
    repeat' split at hx
    all_goals (cases hx <;> exact KP.rf hn)
  case saload =>
    dsimp only [ex1, xSal] at hx
    repeat' split at hx
    all_goals (cases hx <;> exact KP.rf hn)
  case sastore =>
    dsimp only [ex1, xSlen] at hx
    repeat' split at hx
    all_goals (cases hx <;> exact KP.rf hn)
  case iconst n =>
    dsimp only [ex1] at hx
    cases hx
    exact KP.rf hn
  case jsr_w n =>
    dsimp only [ex1] at hx
    cases hx
    exact KP.rf hn
  case goto t =>
    dsimp only [ex1] at hx
    cases hx
    exact KP.rf hn
  case putfield c =>
    dsimp only [ex1, xPut] at hx
    split at hx
    rotate_left
    · cases hx
    rename_i v a r
    split at hx
    rotate_left
    · cases hx
    rename_i hc
    split at hx
    rotate_left
    · cases hx
    rename_i h2 hpv
    cases hx
    unfold pv at hpv
    repeat' split at hpv
    all_goals first | (cases hpv; done) | (cases hpv; exact KP_I hn hc.2) | (cases hpv; exact KP_J hn) | (cases hpv; exact KP_R hn)
  case iastore =>
    dsimp only [ex1, xIas] at hx
    split at hx
    rotate_left
    · cases hx
    split at hx
    rotate_left
    · cases hx
    rename_i hc
    cases hx
    exact KP_I hn hc.2.1
  case lastore =>
    dsimp only [ex1, xJas] at hx
    split at hx
    rotate_left
    · cases hx
    split at hx
    rotate_left
    · cases hx
    cases hx
    exact KP_J hn
  case bastore =>
    dsimp only [ex1, xBas] at hx
    split at hx
    rotate_left
    · cases hx
    split at hx
    rotate_left
    · cases hx
    rename_i hc
    repeat' split at hx
    all_goals first | (cases hx; done) | (cases hx; exact KP_I hn hc.1)
  case aastore =>
    dsimp only [ex1, xAas] at hx
    split at hx
    rotate_left
    · cases hx
    split at hx
    rotate_left
    · cases hx
    cases hx
    exact KP_R hn
  case newarray t =>
    dsimp only [ex1, xNwa] at hx
    split at hx
    rotate_left
    · cases hx
    split at hx
    rotate_left
    · cases hx
    rename_i hc
    cases hx
    exact KP_new hc.2.2.2.1
  case anewarray t =>
    dsimp only [ex1, xNwa] at hx
    split at hx
    rotate_left
    · cases hx
    split at hx
    rotate_left
    · cases hx
    rename_i hc
    cases hx
    exact KP_new hc.2.2.2.1
  case new t =>
    dsimp only [ex1, xNew] at hx
    split at hx
    rotate_left
    · cases hx
    rename_i hc
    cases hx
    exact KP_new hc.2.1
  case invokedynamic q =>
    dsimp only [ex1, xDyn] at hx
    split at hx
    · unfold xCpy at hx
      split at hx
      rotate_left
      · cases hx
      split at hx
      rotate_left
      · cases hx
      rename_i hc
      cases hx
      exact KP_cpy hn hc.2.2.2.1
    · unfold xAb at hx
      repeat' split at hx
      all_goals (cases hx <;> exact KP.rf hn)
    · unfold xMx at hx
      split at hx
      · split at hx
        · cases hx
          exact KP.rf hn
        · cases hx
      · cases hx
    · unfold xMn at hx
      split at hx
      · split at hx
        · cases hx
          exact KP.rf hn
        · cases hx
      · cases hx
    · unfold xOb at hx
      repeat' split at hx
      all_goals (cases hx <;> exact KP.rf hn)
    · cases hx
  all_goals (dsimp only [ex1] at hx; cases hx)
set_option maxRecDepth 100000 in
set_option maxHeartbeats 4000000 in
theorem ex1_len {ins : Instr} {i i' : Nat} {ls ls' : List (Option Value)} {st st' : List Value} {h h' : Hp} (hx : ex1 i ins ls st h = some (i', ls', st', h')) : ls'.length = ls.length := by
  cases ins
  case iload n =>
    dsimp only [ex1, xLdI] at hx
    repeat' split at hx
    all_goals (cases hx <;> first | rfl | exact ps1_len _ _ _ | exact ps2_len _ _ _)
  case lload n =>
    dsimp only [ex1, xLdL] at hx
    repeat' split at hx
    all_goals (cases hx <;> first | rfl | exact ps1_len _ _ _ | exact ps2_len _ _ _)
  case aload n =>
    dsimp only [ex1, xLdA] at hx
    repeat' split at hx
    all_goals (cases hx <;> first | rfl | exact ps1_len _ _ _ | exact ps2_len _ _ _)
  case istore n =>
    dsimp only [ex1, xStI] at hx
    repeat' split at hx
    all_goals (cases hx <;> first | rfl | exact ps1_len _ _ _ | exact ps2_len _ _ _)
  case lstore n =>
    dsimp only [ex1, xStL] at hx
    repeat' split at hx
    all_goals (cases hx <;> first | rfl | exact ps1_len _ _ _ | exact ps2_len _ _ _)
  case astore n =>
    dsimp only [ex1, xStA] at hx
    repeat' split at hx
    all_goals (cases hx <;> first | rfl | exact ps1_len _ _ _ | exact ps2_len _ _ _)
  case iinc n c =>
    dsimp only [ex1, xInc] at hx
    repeat' split at hx
    all_goals (cases hx <;> first | rfl | exact ps1_len _ _ _ | exact ps2_len _ _ _)
  case iadd =>
    dsimp only [ex1, xI2] at hx
    repeat' split at hx
    all_goals (cases hx <;> first | rfl | exact ps1_len _ _ _ | exact ps2_len _ _ _)
  case isub =>
    dsimp only [ex1, xI2] at hx
    repeat' split at hx
    all_goals (cases hx <;> first | rfl | exact ps1_len _ _ _ | exact ps2_len _ _ _)
  case imul =>
    dsimp only [ex1, xI2] at hx
    repeat' split at hx
    all_goals (cases hx <;> first | rfl | exact ps1_len _ _ _ | exact ps2_len _ _ _)
  case iand =>
    dsimp only [ex1, xI2] at hx
    repeat' split at hx
    all_goals (cases hx <;> first | rfl | exact ps1_len _ _ _ | exact ps2_len _ _ _)
  case ior =>
    dsimp only [ex1, xI2] at hx
    repeat' split at hx
    all_goals (cases hx <;> first | rfl | exact ps1_len _ _ _ | exact ps2_len _ _ _)
  case ixor =>
    dsimp only [ex1, xI2] at hx
    repeat' split at hx
    all_goals (cases hx <;> first | rfl | exact ps1_len _ _ _ | exact ps2_len _ _ _)
  case ishl =>
    dsimp only [ex1, xI2] at hx
    repeat' split at hx
    all_goals (cases hx <;> first | rfl | exact ps1_len _ _ _ | exact ps2_len _ _ _)
  case ishr =>
    dsimp only [ex1, xI2] at hx
    repeat' split at hx
    all_goals (cases hx <;> first | rfl | exact ps1_len _ _ _ | exact ps2_len _ _ _)
  case iushr =>
    dsimp only [ex1, xI2] at hx
    repeat' split at hx
    all_goals (cases hx <;> first | rfl | exact ps1_len _ _ _ | exact ps2_len _ _ _)
  case idiv =>
    dsimp only [ex1, xI2z] at hx
    repeat' split at hx
    all_goals (cases hx <;> first | rfl | exact ps1_len _ _ _ | exact ps2_len _ _ _)
  case irem =>
    dsimp only [ex1, xI2z] at hx
    repeat' split at hx
    all_goals (cases hx <;> first | rfl | exact ps1_len _ _ _ | exact ps2_len _ _ _)
  case ineg =>
    dsimp only [ex1, xI1] at hx
    repeat' split at hx
    all_goals (cases hx <;> first | rfl | exact ps1_len _ _ _ | exact ps2_len _ _ _)
  case i2l =>
    dsimp only [ex1, xI1] at hx
    repeat' split at hx
    all_goals (cases hx <;> first | rfl | exact ps1_len _ _ _ | exact ps2_len _ _ _)
  case i2b =>
    dsimp only [ex1, xI1] at hx
    repeat' split at hx
    all_goals (cases hx <;> first | rfl | exact ps1_len _ _ _ | exact ps2_len _ _ _)
  case l2i =>
    dsimp only [ex1, xL1] at hx
    repeat' split at hx
    all_goals (cases hx <;> first | rfl | exact ps1_len _ _ _ | exact ps2_len _ _ _)
  case lneg =>
    dsimp only [ex1, xL1] at hx
    repeat' split at hx
    all_goals (cases hx <;> first | rfl | exact ps1_len _ _ _ | exact ps2_len _ _ _)
  case ladd =>
    dsimp only [ex1, xL2] at hx
    repeat' split at hx
    all_goals (cases hx <;> first | rfl | exact ps1_len _ _ _ | exact ps2_len _ _ _)
  case lsub =>
    dsimp only [ex1, xL2] at hx
    repeat' split at hx
    all_goals (cases hx <;> first | rfl | exact ps1_len _ _ _ | exact ps2_len _ _ _)
  case lmul =>
    dsimp only [ex1, xL2] at hx
    repeat' split at hx
    all_goals (cases hx <;> first | rfl | exact ps1_len _ _ _ | exact ps2_len _ _ _)
  case lor =>
    dsimp only [ex1, xL2] at hx
    repeat' split at hx
    all_goals (cases hx <;> first | rfl | exact ps1_len _ _ _ | exact ps2_len _ _ _)
  case ldiv =>
    dsimp only [ex1, xL2z] at hx
    repeat' split at hx
    all_goals (cases hx <;> first | rfl | exact ps1_len _ _ _ | exact ps2_len _ _ _)
  case lrem =>
    dsimp only [ex1, xL2z] at hx
    repeat' split at hx
    all_goals (cases hx <;> first | rfl | exact ps1_len _ _ _ | exact ps2_len _ _ _)
  case lshl =>
    dsimp only [ex1, xLsh] at hx
    repeat' split at hx
    all_goals (cases hx <;> first | rfl | exact ps1_len _ _ _ | exact ps2_len _ _ _)
  case lcmp =>
    dsimp only [ex1, xCmp] at hx
    repeat' split at hx
    all_goals (cases hx <;> first | rfl | exact ps1_len _ _ _ | exact ps2_len _ _ _)
  case dup =>
    dsimp only [ex1, xDup] at hx
    repeat' split at hx
    all_goals (cases hx <;> first | rfl | exact ps1_len _ _ _ | exact ps2_len _ _ _)
  case dup2 =>
    dsimp only [ex1, xDup2] at hx
    repeat' split at hx
    all_goals (cases hx <;> first | rfl | exact ps1_len _ _ _ | exact ps2_len _ _ _)
  case pop =>
    dsimp only [ex1, xPop] at hx
    repeat' split at hx
    all_goals (cases hx <;> first | rfl | exact ps1_len _ _ _ | exact ps2_len _ _ _)
  case if_icmp c t =>
    dsimp only [ex1, xBr2] at hx
    repeat' split at hx
    all_goals (cases hx <;> first | rfl | exact ps1_len _ _ _ | exact ps2_len _ _ _)
  case ifCond c t =>
    dsimp only [ex1, xBr1] at hx
    repeat' split at hx
    all_goals (cases hx <;> first | rfl | exact ps1_len _ _ _ | exact ps2_len _ _ _)
  case tableswitch d lo hi o =>
    dsimp only [ex1, xSw] at hx
    repeat' split at hx
    all_goals (cases hx <;> first | rfl | exact ps1_len _ _ _ | exact ps2_len _ _ _)
  case getfield c =>
    dsimp only [ex1, xGet] at hx
    repeat' split at hx
    all_goals (cases hx <;> first | rfl | exact ps1_len _ _ _ | exact ps2_len _ _ _)
  case iaload =>
    dsimp only [ex1, xIal] at hx
    repeat' split at hx
    all_goals (cases hx <;> first | rfl | exact ps1_len _ _ _ | exact ps2_len _ _ _)
  case laload =>
    dsimp only [ex1, xJal] at hx
    repeat' split at hx
    all_goals (cases hx <;> first | rfl | exact ps1_len _ _ _ | exact ps2_len _ _ _)
  case baload =>
    dsimp only [ex1, xBal] at hx
    repeat' split at hx
    all_goals (cases hx <;> first | rfl | exact ps1_len _ _ _ | exact ps2_len _ _ _)
  case aaload =>
    dsimp only [ex1, xAal] at hx
    repeat' split at hx
    all_goals (cases hx <;> first | rfl | exact ps1_len _ _ _ | exact ps2_len _ _ _)
  case arraylength =>
    dsimp only [ex1, xLen] at hx
    repeat' split at hx
    all_goals (cases hx <;> first | rfl | exact ps1_len _ _ _ | exact ps2_len _ _ _)
  case saload =>
    dsimp only [ex1, xSal] at hx
    repeat' split at hx
    all_goals (cases hx <;> first | rfl | exact ps1_len _ _ _ | exact ps2_len _ _ _)
  case sastore =>
    dsimp only [ex1, xSlen] at hx
    repeat' split at hx
    all_goals (cases hx <;> first | rfl | exact ps1_len _ _ _ | exact ps2_len _ _ _)
  case iconst n =>
    dsimp only [ex1] at hx
    cases hx
    rfl
  case jsr_w n =>
    dsimp only [ex1] at hx
    cases hx
    rfl
  case goto t =>
    dsimp only [ex1] at hx
    cases hx
    rfl
  case putfield c =>
    dsimp only [ex1, xPut] at hx
    repeat' split at hx
    all_goals (cases hx <;> rfl)
  case iastore =>
    dsimp only [ex1, xIas] at hx
    repeat' split at hx
    all_goals (cases hx <;> rfl)
  case lastore =>
    dsimp only [ex1, xJas] at hx
    repeat' split at hx
    all_goals (cases hx <;> rfl)
  case bastore =>
    dsimp only [ex1, xBas] at hx
    repeat' split at hx
    all_goals (cases hx <;> rfl)
  case aastore =>
    dsimp only [ex1, xAas] at hx
    repeat' split at hx
    all_goals (cases hx <;> rfl)
  case newarray t =>
    dsimp only [ex1, xNwa] at hx
    repeat' split at hx
    all_goals (cases hx <;> rfl)
  case anewarray t =>
    dsimp only [ex1, xNwa] at hx
    repeat' split at hx
    all_goals (cases hx <;> rfl)
  case new t =>
    dsimp only [ex1, xNew] at hx
    repeat' split at hx
    all_goals (cases hx <;> rfl)
  case invokedynamic q =>
    dsimp only [ex1, xDyn] at hx
    split at hx
    · unfold xCpy at hx
      repeat' split at hx
      all_goals (cases hx <;> rfl)
    · unfold xAb at hx
      split at hx
      · split at hx <;> cases hx <;> rfl
      · cases hx
    · unfold xMx at hx
      split at hx
      · split at hx <;> cases hx <;> rfl
      · cases hx
    · unfold xMn at hx
      split at hx
      · split at hx <;> cases hx <;> rfl
      · cases hx
    · unfold xOb at hx
      repeat' split at hx
      all_goals (cases hx <;> rfl)
    · cases hx
  all_goals (dsimp only [ex1] at hx; cases hx)
theorem ev_s (n d k i : Nat) (ls : List (Option Value)) (st : List Value) (h : Hp) : ev (n + 1) d k i ls st h = (match (gRes k)[i]? with
    | none => none
    | some ins => match cl ins st h with
      | some (y, a, r) => match d with
        | 0 => none
        | d' + 1 => if catS r ≤ 8 ∧ (eL a).length ≤ gML y then (match ev n d' y 0 (entL (gML y) a) [] h with
          | some (0, v, h') => if (zN h' = zN h ∧ oOK (zN h') v = true) ∨ fOK (zN h) ls r = true then ev n (d' + 1) k (i + 1) ls (v.toList ++ r) h' else none
          | some (_, _, h') => match gHd k i with
            | some j => match (gRes k)[j]? with
              | some (.astore x) => if zN h' = zN h then ev n (d' + 1) k (j + 1) ((ps0 ls x).set x none) [] h' else none
              | _ => none
            | none => none
          | none => none) else none
      | none => match rtv k ins st with
        | some v => some (0, v, h)
        | none => match ins with
          | .athrow => some (1, none, zThr h)
          | _ => match ex1 i ins ls st h with
            | some (i', ls', st', h') => ev n d k i' ls' st' h'
            | none => none) := rfl
set_option maxRecDepth 100000 in
set_option maxHeartbeats 4000000 in
theorem ev_keep : ∀ (n d k i : Nat) (ls : List (Option Value)) (st : List Value) (h : Hp) (t : Nat) (v : Option Value) (h' : Hp), ev n d k i ls st h = some (t, v, h') → zN h ≤ zSC → KP h h' := by
  intro n
  induction n with
  | zero => intro d k i ls st h t v h' he; cases he
  | succ n ih =>
    intro d k i ls st h t v h' he hn
    rw [ev_s] at he
    split at he
    · cases he
    split at he
    · split at he
      · cases he
      split at he
      · split at he
        · rename_i hq
          have k1 := ih _ _ _ _ _ _ _ _ _ hq hn
          split at he
          · exact k1.tr (ih _ _ _ _ _ _ _ _ _ he k1.1)
          · cases he
        · rename_i hne hq
          have k1 := ih _ _ _ _ _ _ _ _ _ hq hn
          split at he
          · split at he
            · split at he
              · exact k1.tr (ih _ _ _ _ _ _ _ _ _ he k1.1)
              · cases he
            · cases he
          · cases he
        · cases he
      · cases he
    · split at he
      · cases he
        exact KP.rf hn
      · split at he
        · cases he
          exact KP_thr hn
        · split at he
          · rename_i hq
            have k1 := ex1_keep hq hn
            exact k1.tr (ih _ _ _ _ _ _ _ _ _ he k1.1)
          · cases he
