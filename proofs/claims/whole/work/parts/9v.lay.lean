/-! the Model's OTHER FACES: lay, isAhead -/
/-- the Model's faces so far: how often each FACE is on x and on y, and how many there are -/
def xyS (h : Hp) (m : Nat) (X Y : Nat → Int) (a b : Int) : Prop := zI h m 43 = iI a ∧ zI h m 44 = iI b ∧ (∀ i, i ≤ 60 → zI h (m + 22) i = iI (X i)) ∧ ∀ i, i ≤ 60 → zI h (m + 23) i = iI (Y i)
/-- v at i -/
def upZ (X : Nat → Int) (i : Int) (v : Int) (j : Nat) : Int := if (j : Int) = i then v else X j
theorem t_M_lay {d : Nat} {h : Hp} {m : Nat} {x y : Nat} {a b u v : Int} {X Y : Nat → Int} {Q : Nat → Option Value → Hp → Prop} (hm : mO h m) (hx : x ≤ 1000) (hy : y ≤ 1000) (s : xyS h m X Y a b) (hq : ∀ g, fi (fun q => q = m ∨ q = m + 22 ∨ q = m + 23) h g → (∀ i, i ≠ 43 → i ≠ 44 → zI g m i = zI h m i) → xyS g m (if x ≤ 60 then upZ X x u else X) (if y ≤ 60 then upZ Y y v else Y) (if x ≤ 60 then a + (u - X x) else a) (if y ≤ 60 then b + (v - Y y) else b) → Q 0 none g) : PR d m_M_lay [.ref m, .int (iI x), .int (iI y), .int (iI u), .int (iI v)] h Q := by
  obtain ⟨s1, s2, s3, s4⟩ := s
  show PW d 244 0 [some (.ref m), some (.int (iI x)), some (.int (iI y)), some (.int (iI u)), some (.int (iI v))] [] h Q
  have l19 : ∀ g X' a', fi (fun q => q = m ∨ q = m + 22 ∨ q = m + 23) h g → (∀ i, i ≠ 43 → i ≠ 44 → zI g m i = zI h m i) → xyS g m X' Y a' b → X' = (if x ≤ 60 then upZ X x u else X) → a' = (if x ≤ 60 then a + (u - X x) else a) → PW d 244 19 [some (.ref m), some (.int (iI x)), some (.int (iI y)), some (.int (iI u)), some (.int (iI v))] [] g Q := fun g X' a' f e s eX ea => by
    obtain ⟨t1, t2, t3, t4⟩ := s
    have hg := hm.fi f
    have Mg := hg.k
    have A := hg.ys
    have q := hq g
    rw [← eX, ← ea] at hq
    by_cases c : y ≤ 60
    · have ty := t4 y c
      rw [if_pos c, if_pos c] at hq
      refine vs_ok 20 ?_
      rw [show ((gRes 244).drop 19).take 20 = [.iload 2, .iconst 60, .if_icmp .gt 38, .aload 0, .dup, .getfield 12440, .iload 4, .aload 0, .getfield 12352, .iload 2, .iaload, .isub, .iadd, .putfield 12440, .aload 0, .getfield 12352, .iload 2, .iload 4, .iastore, .return_] from rfl]
      simp (disch := omega) only [vs_iadd, vs_isub, vs_iconst, vs_if_icmp, vs_getfield, vs_putfield, vs_iaload, vs_iastore, vs_return_, vs_dupi, vs_dupr, vs_aload0, vs_iload2, vs_iload4, vs_nil, gv_0, gv_1, gv_2, gv_3, pv_0, pv_1, va_rf_s, Nat.reduceDiv, Nat.reduceMod, Nat.reduceAdd, Nat.reduceMul, Int.reduceToNat, true_and, and_true, and_self, cP_eq, cP_ne, cP_lt, cP_ge, cP_gt, cP_le, eL_i, eL_l, eL_r, eL_n, Option.toList_none, Option.toList_some, List.nil_append, List.cons_append, kkI, llI, nnI, rrI, jjI, kkJ, llJ, nnJ, rrJ, iiJ, zIIs, zJJs, nEF, nET, and_false, false_and, jmin, jmax, catS_n, catS_i, catS_r, catS_l, Nat.reduceLeDiff, j1eq1, n21, jt0, jt1, Bool.false_eq_true, Classical.not_not, true_or, or_true, false_or, or_false, true_imp_iff, false_imp_iff, not_true_eq_false, not_false_eq_true, jif0, jif1, jifb, ltT, ltF, leT, leF, eqT, eqF, jlt, jle, jeq, jlt0, jle0, jeq0, jge0, jgt0, jinB, jnat, clt, cle, ceq, cgt, cge, lI_add, lI_sub, lI_mul, jadd, jsub, jmul, jneg, jtol, b010, b011, pv_2t, Int.toNat_natCast, Option.some.injEq, exists_eq_left', if_true, if_false, Mg, A, t2, ty, show gRc 244 = 0 from rfl]
      refine hq _ ((f.I (Or.inl rfl)).I (Or.inr (Or.inr rfl))) (fun i h1 h2 => by rw [zI_s, if_neg (by omega), zI_s, if_neg fun z => h2 z.2]; exact e i h1 h2) ⟨?_, ?_, fun i hi => ?_, fun i hi => ?_⟩
      · rw [zI_s, if_neg (by omega), zI_s, if_neg (by omega)]
        exact t1
      · rw [zI_s, if_neg (by omega), zI_s, if_pos ⟨rfl, rfl⟩]
      · rw [zI_s, if_neg (by omega), zI_s, if_neg (by omega)]
        exact t3 i hi
      · rw [zI_s]
        unfold upZ
        by_cases z : i = y
        · rw [if_pos ⟨rfl, z⟩, if_pos (by omega)]
        · rw [if_neg fun w => z w.2, if_neg (by omega), zI_s, if_neg (by omega)]
          exact t4 i hi
    · rw [if_neg c, if_neg c] at hq
      refine vs_ok 3 ?_
      rw [show ((gRes 244).drop 19).take 3 = [.iload 2, .iconst 60, .if_icmp .gt 38] from rfl]
      simp (disch := omega) only [vs_iconst, vs_if_icmp, vs_iload2, vs_nil, gv_0, gv_1, gv_2, gv_3, pv_0, pv_1, va_rf_s, Nat.reduceDiv, Nat.reduceMod, Nat.reduceAdd, Nat.reduceMul, Int.reduceToNat, true_and, and_true, and_self, cP_eq, cP_ne, cP_lt, cP_ge, cP_gt, cP_le, eL_i, eL_l, eL_r, eL_n, Option.toList_none, Option.toList_some, List.nil_append, List.cons_append, kkI, llI, nnI, rrI, jjI, kkJ, llJ, nnJ, rrJ, iiJ, zIIs, zJJs, nEF, nET, and_false, false_and, jmin, jmax, catS_n, catS_i, catS_r, catS_l, Nat.reduceLeDiff, j1eq1, n21, jt0, jt1, Bool.false_eq_true, Classical.not_not, true_or, or_true, false_or, or_false, true_imp_iff, false_imp_iff, not_true_eq_false, not_false_eq_true, jif0, jif1, jifb, ltT, ltF, leT, leF, eqT, eqF, jlt, jle, jeq, jlt0, jle0, jeq0, jge0, jgt0, jinB, jnat, clt, cle, ceq, cgt, cge, lI_add, lI_sub, lI_mul, jadd, jsub, jmul, jneg, jtol, b010, b011, pv_2t, Int.toNat_natCast, Option.some.injEq, exists_eq_left', if_true, if_false]
      refine vs_ok 1 ?_
      rw [show ((gRes 244).drop 38).take 1 = [.return_] from rfl]
      simp (disch := omega) only [vs_return_, vs_nil, gv_0, gv_1, gv_2, gv_3, pv_0, pv_1, va_rf_s, Nat.reduceDiv, Nat.reduceMod, Nat.reduceAdd, Nat.reduceMul, Int.reduceToNat, true_and, and_true, and_self, cP_eq, cP_ne, cP_lt, cP_ge, cP_gt, cP_le, eL_i, eL_l, eL_r, eL_n, Option.toList_none, Option.toList_some, List.nil_append, List.cons_append, kkI, llI, nnI, rrI, jjI, kkJ, llJ, nnJ, rrJ, iiJ, zIIs, zJJs, nEF, nET, and_false, false_and, jmin, jmax, catS_n, catS_i, catS_r, catS_l, Nat.reduceLeDiff, j1eq1, n21, jt0, jt1, Bool.false_eq_true, Classical.not_not, true_or, or_true, false_or, or_false, true_imp_iff, false_imp_iff, not_true_eq_false, not_false_eq_true, jif0, jif1, jifb, ltT, ltF, leT, leF, eqT, eqF, jlt, jle, jeq, jlt0, jle0, jeq0, jge0, jgt0, jinB, jnat, clt, cle, ceq, cgt, cge, lI_add, lI_sub, lI_mul, jadd, jsub, jmul, jneg, jtol, b010, b011, pv_2t, Int.toNat_natCast, Option.some.injEq, exists_eq_left', if_true, if_false, show gRc 244 = 0 from rfl]
      exact hq g f e ⟨t1, t2, t3, t4⟩
  have M := hm.k
  have A := hm.xs
  by_cases c : x ≤ 60
  · have tx := s3 x c
    refine vs_ok 19 ?_
    rw [show ((gRes 244).drop 0).take 19 = [.iload 1, .iconst 60, .if_icmp .gt 19, .aload 0, .dup, .getfield 12430, .iload 3, .aload 0, .getfield 12342, .iload 1, .iaload, .isub, .iadd, .putfield 12430, .aload 0, .getfield 12342, .iload 1, .iload 3, .iastore] from rfl]
    simp (disch := omega) only [vs_iadd, vs_isub, vs_iconst, vs_if_icmp, vs_getfield, vs_putfield, vs_iaload, vs_iastore, vs_dupi, vs_dupr, vs_aload0, vs_iload1, vs_iload3, vs_nil, gv_0, gv_1, gv_2, gv_3, pv_0, pv_1, va_rf_s, Nat.reduceDiv, Nat.reduceMod, Nat.reduceAdd, Nat.reduceMul, Int.reduceToNat, true_and, and_true, and_self, cP_eq, cP_ne, cP_lt, cP_ge, cP_gt, cP_le, eL_i, eL_l, eL_r, eL_n, Option.toList_none, Option.toList_some, List.nil_append, List.cons_append, kkI, llI, nnI, rrI, jjI, kkJ, llJ, nnJ, rrJ, iiJ, zIIs, zJJs, nEF, nET, and_false, false_and, jmin, jmax, catS_n, catS_i, catS_r, catS_l, Nat.reduceLeDiff, j1eq1, n21, jt0, jt1, Bool.false_eq_true, Classical.not_not, true_or, or_true, false_or, or_false, true_imp_iff, false_imp_iff, not_true_eq_false, not_false_eq_true, jif0, jif1, jifb, ltT, ltF, leT, leF, eqT, eqF, jlt, jle, jeq, jlt0, jle0, jeq0, jge0, jgt0, jinB, jnat, clt, cle, ceq, cgt, cge, lI_add, lI_sub, lI_mul, jadd, jsub, jmul, jneg, jtol, b010, b011, pv_2t, Int.toNat_natCast, Option.some.injEq, exists_eq_left', if_true, if_false, M, A, s1, tx]
    refine l19 _ (upZ X x u) (a + (u - X x)) ((fi_I (S := fun q => q = m ∨ q = m + 22 ∨ q = m + 23) (Or.inl rfl)).I (Or.inr (Or.inl rfl))) (fun i h1 h2 => by rw [zI_s, if_neg (by omega), zI_s, if_neg fun z => h1 z.2]) ⟨?_, ?_, fun i hi => ?_, fun i hi => ?_⟩ (by rw [if_pos c]) (by rw [if_pos c])
    · rw [zI_s, if_neg (by omega), zI_s, if_pos ⟨rfl, rfl⟩]
    · rw [zI_s, if_neg (by omega), zI_s, if_neg (by omega)]
      exact s2
    · rw [zI_s]
      unfold upZ
      by_cases z : i = x
      · rw [if_pos ⟨rfl, z⟩, if_pos (by omega)]
      · rw [if_neg fun w => z w.2, if_neg (by omega), zI_s, if_neg (by omega)]
        exact s3 i hi
    · rw [zI_s, if_neg (by omega), zI_s, if_neg (by omega)]
      exact s4 i hi
  · refine vs_ok 3 ?_
    rw [show ((gRes 244).drop 0).take 3 = [.iload 1, .iconst 60, .if_icmp .gt 19] from rfl]
    simp (disch := omega) only [vs_iconst, vs_if_icmp, vs_iload1, vs_nil, gv_0, gv_1, gv_2, gv_3, pv_0, pv_1, va_rf_s, Nat.reduceDiv, Nat.reduceMod, Nat.reduceAdd, Nat.reduceMul, Int.reduceToNat, true_and, and_true, and_self, cP_eq, cP_ne, cP_lt, cP_ge, cP_gt, cP_le, eL_i, eL_l, eL_r, eL_n, Option.toList_none, Option.toList_some, List.nil_append, List.cons_append, kkI, llI, nnI, rrI, jjI, kkJ, llJ, nnJ, rrJ, iiJ, zIIs, zJJs, nEF, nET, and_false, false_and, jmin, jmax, catS_n, catS_i, catS_r, catS_l, Nat.reduceLeDiff, j1eq1, n21, jt0, jt1, Bool.false_eq_true, Classical.not_not, true_or, or_true, false_or, or_false, true_imp_iff, false_imp_iff, not_true_eq_false, not_false_eq_true, jif0, jif1, jifb, ltT, ltF, leT, leF, eqT, eqF, jlt, jle, jeq, jlt0, jle0, jeq0, jge0, jgt0, jinB, jnat, clt, cle, ceq, cgt, cge, lI_add, lI_sub, lI_mul, jadd, jsub, jmul, jneg, jtol, b010, b011, pv_2t, Int.toNat_natCast, Option.some.injEq, exists_eq_left', if_true, if_false]
    exact l19 h X a fi.rf (fun i _ _ => rfl) ⟨s1, s2, s3, s4⟩ (by rw [if_neg c]) (by rw [if_neg c])
/-- the first place below v + k where X and K differ, or v + k -/
def fdF (X K : Nat → Int) : Nat → Nat → Nat
  | 0, v => v
  | k + 1, v => if X v = K v then fdF X K k (v + 1) else v
theorem t_M_isAhead {d : Nat} {h : Hp} {m k : Nat} {X K : Nat → Int} {Q : Nat → Option Value → Hp → Prop} (hm : mO h m) (hk : k < 100) (hX : ∀ i, i ≤ 60 → i32 (X i) ∧ zI h (m + 22) i = iI (X i)) (hK : ∀ i, i ≤ 60 → i32 (K i) ∧ zI h (m + 25) (61 * k + i) = iI (K i)) (hq : Q 0 (some (.int (iI (if K (fdF X K 60 0) < X (fdF X K 60 0) then 1 else 0)))) h) : PR d m_M_isAhead [.ref m, .int (iI k)] h Q := by
  have M := hm.k
  have A := hm.xs
  have A2 := hm.keptX
  have e : ∀ v : Nat, (61 : Int) * (k : Int) + (v : Int) = ((61 * k + v : Nat) : Int) := fun v => by omega
  show PW d 246 0 [some (.ref m), some (.int (iI k)), none] [] h Q
  have fin : ∀ v, v ≤ 60 → fdF X K 60 0 = v → PW d 246 20 [some (.ref m), some (.int (iI k)), some (.int (iI v))] [] h Q := fun v hv ev => by
    obtain ⟨x1, x2⟩ := hX v hv
    obtain ⟨k1, k2⟩ := hK v hv
    have x3 := x1.1
    have x4 := x1.2
    have k3 := k1.1
    have k4 := k1.2
    rw [ev] at hq
    by_cases c : K v < X v
    · rw [if_pos c] at hq
      refine vs_ok 13 ?_
      rw [show ((gRes 246).drop 20).take 13 = [.aload 0, .getfield 12342, .iload 2, .iaload, .aload 0, .getfield 12372, .iconst 61, .iload 1, .imul, .iload 2, .iadd, .iaload, .if_icmp .le 35] from rfl]
      simp (disch := omega) only [vs_iadd, vs_imul, vs_iconst, vs_if_icmp, vs_getfield, vs_iaload, vs_aload0, vs_iload1, vs_iload2, vs_nil, gv_0, gv_1, gv_2, gv_3, pv_0, pv_1, va_rf_s, Nat.reduceDiv, Nat.reduceMod, Nat.reduceAdd, Nat.reduceMul, Int.reduceToNat, true_and, and_true, and_self, cP_eq, cP_ne, cP_lt, cP_ge, cP_gt, cP_le, eL_i, eL_l, eL_r, eL_n, Option.toList_none, Option.toList_some, List.nil_append, List.cons_append, kkI, llI, nnI, rrI, jjI, kkJ, llJ, nnJ, rrJ, iiJ, zIIs, zJJs, nEF, nET, and_false, false_and, jmin, jmax, catS_n, catS_i, catS_r, catS_l, Nat.reduceLeDiff, j1eq1, n21, jt0, jt1, Bool.false_eq_true, Classical.not_not, true_or, or_true, false_or, or_false, true_imp_iff, false_imp_iff, not_true_eq_false, not_false_eq_true, jif0, jif1, jifb, ltT, ltF, leT, leF, eqT, eqF, jlt, jle, jeq, jlt0, jle0, jeq0, jge0, jgt0, jinB, jnat, clt, cle, ceq, cgt, cge, lI_add, lI_sub, lI_mul, jadd, jsub, jmul, jneg, jtol, b010, b011, pv_2t, Int.toNat_natCast, Option.some.injEq, exists_eq_left', if_true, if_false, M, A, A2, e, x2, k2]
      refine vs_ok 2 ?_
      rw [show ((gRes 246).drop 33).take 2 = [.iconst 1, .goto 36] from rfl]
      simp (disch := omega) only [vs_iconst, vs_goto, vs_nil, gv_0, gv_1, gv_2, gv_3, pv_0, pv_1, va_rf_s, Nat.reduceDiv, Nat.reduceMod, Nat.reduceAdd, Nat.reduceMul, Int.reduceToNat, true_and, and_true, and_self, cP_eq, cP_ne, cP_lt, cP_ge, cP_gt, cP_le, eL_i, eL_l, eL_r, eL_n, Option.toList_none, Option.toList_some, List.nil_append, List.cons_append, kkI, llI, nnI, rrI, jjI, kkJ, llJ, nnJ, rrJ, iiJ, zIIs, zJJs, nEF, nET, and_false, false_and, jmin, jmax, catS_n, catS_i, catS_r, catS_l, Nat.reduceLeDiff, j1eq1, n21, jt0, jt1, Bool.false_eq_true, Classical.not_not, true_or, or_true, false_or, or_false, true_imp_iff, false_imp_iff, not_true_eq_false, not_false_eq_true, jif0, jif1, jifb, ltT, ltF, leT, leF, eqT, eqF, jlt, jle, jeq, jlt0, jle0, jeq0, jge0, jgt0, jinB, jnat, clt, cle, ceq, cgt, cge, lI_add, lI_sub, lI_mul, jadd, jsub, jmul, jneg, jtol, b010, b011, pv_2t, Int.toNat_natCast, Option.some.injEq, exists_eq_left', if_true, if_false]
      refine vs_ok 1 ?_
      rw [show ((gRes 246).drop 36).take 1 = [.ireturn] from rfl]
      simp (disch := omega) only [vs_ireturn, vs_nil, gv_0, gv_1, gv_2, gv_3, pv_0, pv_1, va_rf_s, Nat.reduceDiv, Nat.reduceMod, Nat.reduceAdd, Nat.reduceMul, Int.reduceToNat, true_and, and_true, and_self, cP_eq, cP_ne, cP_lt, cP_ge, cP_gt, cP_le, eL_i, eL_l, eL_r, eL_n, Option.toList_none, Option.toList_some, List.nil_append, List.cons_append, kkI, llI, nnI, rrI, jjI, kkJ, llJ, nnJ, rrJ, iiJ, zIIs, zJJs, nEF, nET, and_false, false_and, jmin, jmax, catS_n, catS_i, catS_r, catS_l, Nat.reduceLeDiff, j1eq1, n21, jt0, jt1, Bool.false_eq_true, Classical.not_not, true_or, or_true, false_or, or_false, true_imp_iff, false_imp_iff, not_true_eq_false, not_false_eq_true, jif0, jif1, jifb, ltT, ltF, leT, leF, eqT, eqF, jlt, jle, jeq, jlt0, jle0, jeq0, jge0, jgt0, jinB, jnat, clt, cle, ceq, cgt, cge, lI_add, lI_sub, lI_mul, jadd, jsub, jmul, jneg, jtol, b010, b011, pv_2t, Int.toNat_natCast, Option.some.injEq, exists_eq_left', if_true, if_false, show gRc 246 = 2 from rfl]
      exact hq
    · rw [if_neg c] at hq
      refine vs_ok 13 ?_
      rw [show ((gRes 246).drop 20).take 13 = [.aload 0, .getfield 12342, .iload 2, .iaload, .aload 0, .getfield 12372, .iconst 61, .iload 1, .imul, .iload 2, .iadd, .iaload, .if_icmp .le 35] from rfl]
      simp (disch := omega) only [vs_iadd, vs_imul, vs_iconst, vs_if_icmp, vs_getfield, vs_iaload, vs_aload0, vs_iload1, vs_iload2, vs_nil, gv_0, gv_1, gv_2, gv_3, pv_0, pv_1, va_rf_s, Nat.reduceDiv, Nat.reduceMod, Nat.reduceAdd, Nat.reduceMul, Int.reduceToNat, true_and, and_true, and_self, cP_eq, cP_ne, cP_lt, cP_ge, cP_gt, cP_le, eL_i, eL_l, eL_r, eL_n, Option.toList_none, Option.toList_some, List.nil_append, List.cons_append, kkI, llI, nnI, rrI, jjI, kkJ, llJ, nnJ, rrJ, iiJ, zIIs, zJJs, nEF, nET, and_false, false_and, jmin, jmax, catS_n, catS_i, catS_r, catS_l, Nat.reduceLeDiff, j1eq1, n21, jt0, jt1, Bool.false_eq_true, Classical.not_not, true_or, or_true, false_or, or_false, true_imp_iff, false_imp_iff, not_true_eq_false, not_false_eq_true, jif0, jif1, jifb, ltT, ltF, leT, leF, eqT, eqF, jlt, jle, jeq, jlt0, jle0, jeq0, jge0, jgt0, jinB, jnat, clt, cle, ceq, cgt, cge, lI_add, lI_sub, lI_mul, jadd, jsub, jmul, jneg, jtol, b010, b011, pv_2t, Int.toNat_natCast, Option.some.injEq, exists_eq_left', if_true, if_false, M, A, A2, e, x2, k2]
      refine vs_ok 2 ?_
      rw [show ((gRes 246).drop 35).take 2 = [.iconst 0, .ireturn] from rfl]
      simp (disch := omega) only [vs_iconst, vs_ireturn, vs_nil, gv_0, gv_1, gv_2, gv_3, pv_0, pv_1, va_rf_s, Nat.reduceDiv, Nat.reduceMod, Nat.reduceAdd, Nat.reduceMul, Int.reduceToNat, true_and, and_true, and_self, cP_eq, cP_ne, cP_lt, cP_ge, cP_gt, cP_le, eL_i, eL_l, eL_r, eL_n, Option.toList_none, Option.toList_some, List.nil_append, List.cons_append, kkI, llI, nnI, rrI, jjI, kkJ, llJ, nnJ, rrJ, iiJ, zIIs, zJJs, nEF, nET, and_false, false_and, jmin, jmax, catS_n, catS_i, catS_r, catS_l, Nat.reduceLeDiff, j1eq1, n21, jt0, jt1, Bool.false_eq_true, Classical.not_not, true_or, or_true, false_or, or_false, true_imp_iff, false_imp_iff, not_true_eq_false, not_false_eq_true, jif0, jif1, jifb, ltT, ltF, leT, leF, eqT, eqF, jlt, jle, jeq, jlt0, jle0, jeq0, jge0, jgt0, jinB, jnat, clt, cle, ceq, cgt, cge, lI_add, lI_sub, lI_mul, jadd, jsub, jmul, jneg, jtol, b010, b011, pv_2t, Int.toNat_natCast, Option.some.injEq, exists_eq_left', if_true, if_false, show gRc 246 = 2 from rfl]
      exact hq
  have lp : ∀ (j v : Nat), j + v = 60 → fdF X K j v = fdF X K 60 0 → PW d 246 2 [some (.ref m), some (.int (iI k)), some (.int (iI v))] [] h Q := by
    intro j
    induction j with
    | zero =>
      intro v hv hF
      have ev : v = 60 := by omega
      subst ev
      refine vs_ok 3 ?_
      rw [show ((gRes 246).drop 2).take 3 = [.iload 2, .iconst 60, .if_icmp .ge 20] from rfl]
      simp (disch := omega) only [vs_iconst, vs_if_icmp, vs_iload2, vs_nil, gv_0, gv_1, gv_2, gv_3, pv_0, pv_1, va_rf_s, Nat.reduceDiv, Nat.reduceMod, Nat.reduceAdd, Nat.reduceMul, Int.reduceToNat, true_and, and_true, and_self, cP_eq, cP_ne, cP_lt, cP_ge, cP_gt, cP_le, eL_i, eL_l, eL_r, eL_n, Option.toList_none, Option.toList_some, List.nil_append, List.cons_append, kkI, llI, nnI, rrI, jjI, kkJ, llJ, nnJ, rrJ, iiJ, zIIs, zJJs, nEF, nET, and_false, false_and, jmin, jmax, catS_n, catS_i, catS_r, catS_l, Nat.reduceLeDiff, j1eq1, n21, jt0, jt1, Bool.false_eq_true, Classical.not_not, true_or, or_true, false_or, or_false, true_imp_iff, false_imp_iff, not_true_eq_false, not_false_eq_true, jif0, jif1, jifb, ltT, ltF, leT, leF, eqT, eqF, jlt, jle, jeq, jlt0, jle0, jeq0, jge0, jgt0, jinB, jnat, clt, cle, ceq, cgt, cge, lI_add, lI_sub, lI_mul, jadd, jsub, jmul, jneg, jtol, b010, b011, pv_2t, Int.toNat_natCast, Option.some.injEq, exists_eq_left', if_true, if_false]
      exact fin 60 (by omega) hF.symm
    | succ j ih =>
      intro v hv hF
      obtain ⟨x1, x2⟩ := hX v (by omega)
      obtain ⟨k1, k2⟩ := hK v (by omega)
      have x3 := x1.1
      have x4 := x1.2
      have k3 := k1.1
      have k4 := k1.2
      unfold fdF at hF
      by_cases c : X v = K v
      · rw [if_pos c] at hF
        refine vs_ok 3 ?_
        rw [show ((gRes 246).drop 2).take 3 = [.iload 2, .iconst 60, .if_icmp .ge 20] from rfl]
        simp (disch := omega) only [vs_iconst, vs_if_icmp, vs_iload2, vs_nil, gv_0, gv_1, gv_2, gv_3, pv_0, pv_1, va_rf_s, Nat.reduceDiv, Nat.reduceMod, Nat.reduceAdd, Nat.reduceMul, Int.reduceToNat, true_and, and_true, and_self, cP_eq, cP_ne, cP_lt, cP_ge, cP_gt, cP_le, eL_i, eL_l, eL_r, eL_n, Option.toList_none, Option.toList_some, List.nil_append, List.cons_append, kkI, llI, nnI, rrI, jjI, kkJ, llJ, nnJ, rrJ, iiJ, zIIs, zJJs, nEF, nET, and_false, false_and, jmin, jmax, catS_n, catS_i, catS_r, catS_l, Nat.reduceLeDiff, j1eq1, n21, jt0, jt1, Bool.false_eq_true, Classical.not_not, true_or, or_true, false_or, or_false, true_imp_iff, false_imp_iff, not_true_eq_false, not_false_eq_true, jif0, jif1, jifb, ltT, ltF, leT, leF, eqT, eqF, jlt, jle, jeq, jlt0, jle0, jeq0, jge0, jgt0, jinB, jnat, clt, cle, ceq, cgt, cge, lI_add, lI_sub, lI_mul, jadd, jsub, jmul, jneg, jtol, b010, b011, pv_2t, Int.toNat_natCast, Option.some.injEq, exists_eq_left', if_true, if_false]
        refine vs_ok 13 ?_
        rw [show ((gRes 246).drop 5).take 13 = [.aload 0, .getfield 12342, .iload 2, .iaload, .aload 0, .getfield 12372, .iconst 61, .iload 1, .imul, .iload 2, .iadd, .iaload, .if_icmp .ne 20] from rfl]
        simp (disch := omega) only [vs_iadd, vs_imul, vs_iconst, vs_if_icmp, vs_getfield, vs_iaload, vs_aload0, vs_iload1, vs_iload2, vs_nil, gv_0, gv_1, gv_2, gv_3, pv_0, pv_1, va_rf_s, Nat.reduceDiv, Nat.reduceMod, Nat.reduceAdd, Nat.reduceMul, Int.reduceToNat, true_and, and_true, and_self, cP_eq, cP_ne, cP_lt, cP_ge, cP_gt, cP_le, eL_i, eL_l, eL_r, eL_n, Option.toList_none, Option.toList_some, List.nil_append, List.cons_append, kkI, llI, nnI, rrI, jjI, kkJ, llJ, nnJ, rrJ, iiJ, zIIs, zJJs, nEF, nET, and_false, false_and, jmin, jmax, catS_n, catS_i, catS_r, catS_l, Nat.reduceLeDiff, j1eq1, n21, jt0, jt1, Bool.false_eq_true, Classical.not_not, true_or, or_true, false_or, or_false, true_imp_iff, false_imp_iff, not_true_eq_false, not_false_eq_true, jif0, jif1, jifb, ltT, ltF, leT, leF, eqT, eqF, jlt, jle, jeq, jlt0, jle0, jeq0, jge0, jgt0, jinB, jnat, clt, cle, ceq, cgt, cge, lI_add, lI_sub, lI_mul, jadd, jsub, jmul, jneg, jtol, b010, b011, pv_2t, Int.toNat_natCast, Option.some.injEq, exists_eq_left', if_true, if_false, M, A, A2, e, x2, k2]
        refine vs_ok 2 ?_
        rw [show ((gRes 246).drop 18).take 2 = [.iinc 2 1, .goto 2] from rfl]
        simp (disch := omega) only [vs_goto, vs_iinc2n, vs_iinc2i, vs_iinc2r, vs_iinc2l, vs_nil, gv_0, gv_1, gv_2, gv_3, pv_0, pv_1, va_rf_s, Nat.reduceDiv, Nat.reduceMod, Nat.reduceAdd, Nat.reduceMul, Int.reduceToNat, true_and, and_true, and_self, cP_eq, cP_ne, cP_lt, cP_ge, cP_gt, cP_le, eL_i, eL_l, eL_r, eL_n, Option.toList_none, Option.toList_some, List.nil_append, List.cons_append, kkI, llI, nnI, rrI, jjI, kkJ, llJ, nnJ, rrJ, iiJ, zIIs, zJJs, nEF, nET, and_false, false_and, jmin, jmax, catS_n, catS_i, catS_r, catS_l, Nat.reduceLeDiff, j1eq1, n21, jt0, jt1, Bool.false_eq_true, Classical.not_not, true_or, or_true, false_or, or_false, true_imp_iff, false_imp_iff, not_true_eq_false, not_false_eq_true, jif0, jif1, jifb, ltT, ltF, leT, leF, eqT, eqF, jlt, jle, jeq, jlt0, jle0, jeq0, jge0, jgt0, jinB, jnat, clt, cle, ceq, cgt, cge, lI_add, lI_sub, lI_mul, jadd, jsub, jmul, jneg, jtol, b010, b011, pv_2t, Int.toNat_natCast, Option.some.injEq, exists_eq_left', if_true, if_false]
        exact ih (v + 1) (by omega) hF
      · rw [if_neg c] at hF
        refine vs_ok 3 ?_
        rw [show ((gRes 246).drop 2).take 3 = [.iload 2, .iconst 60, .if_icmp .ge 20] from rfl]
        simp (disch := omega) only [vs_iconst, vs_if_icmp, vs_iload2, vs_nil, gv_0, gv_1, gv_2, gv_3, pv_0, pv_1, va_rf_s, Nat.reduceDiv, Nat.reduceMod, Nat.reduceAdd, Nat.reduceMul, Int.reduceToNat, true_and, and_true, and_self, cP_eq, cP_ne, cP_lt, cP_ge, cP_gt, cP_le, eL_i, eL_l, eL_r, eL_n, Option.toList_none, Option.toList_some, List.nil_append, List.cons_append, kkI, llI, nnI, rrI, jjI, kkJ, llJ, nnJ, rrJ, iiJ, zIIs, zJJs, nEF, nET, and_false, false_and, jmin, jmax, catS_n, catS_i, catS_r, catS_l, Nat.reduceLeDiff, j1eq1, n21, jt0, jt1, Bool.false_eq_true, Classical.not_not, true_or, or_true, false_or, or_false, true_imp_iff, false_imp_iff, not_true_eq_false, not_false_eq_true, jif0, jif1, jifb, ltT, ltF, leT, leF, eqT, eqF, jlt, jle, jeq, jlt0, jle0, jeq0, jge0, jgt0, jinB, jnat, clt, cle, ceq, cgt, cge, lI_add, lI_sub, lI_mul, jadd, jsub, jmul, jneg, jtol, b010, b011, pv_2t, Int.toNat_natCast, Option.some.injEq, exists_eq_left', if_true, if_false]
        refine vs_ok 13 ?_
        rw [show ((gRes 246).drop 5).take 13 = [.aload 0, .getfield 12342, .iload 2, .iaload, .aload 0, .getfield 12372, .iconst 61, .iload 1, .imul, .iload 2, .iadd, .iaload, .if_icmp .ne 20] from rfl]
        simp (disch := omega) only [vs_iadd, vs_imul, vs_iconst, vs_if_icmp, vs_getfield, vs_iaload, vs_aload0, vs_iload1, vs_iload2, vs_nil, gv_0, gv_1, gv_2, gv_3, pv_0, pv_1, va_rf_s, Nat.reduceDiv, Nat.reduceMod, Nat.reduceAdd, Nat.reduceMul, Int.reduceToNat, true_and, and_true, and_self, cP_eq, cP_ne, cP_lt, cP_ge, cP_gt, cP_le, eL_i, eL_l, eL_r, eL_n, Option.toList_none, Option.toList_some, List.nil_append, List.cons_append, kkI, llI, nnI, rrI, jjI, kkJ, llJ, nnJ, rrJ, iiJ, zIIs, zJJs, nEF, nET, and_false, false_and, jmin, jmax, catS_n, catS_i, catS_r, catS_l, Nat.reduceLeDiff, j1eq1, n21, jt0, jt1, Bool.false_eq_true, Classical.not_not, true_or, or_true, false_or, or_false, true_imp_iff, false_imp_iff, not_true_eq_false, not_false_eq_true, jif0, jif1, jifb, ltT, ltF, leT, leF, eqT, eqF, jlt, jle, jeq, jlt0, jle0, jeq0, jge0, jgt0, jinB, jnat, clt, cle, ceq, cgt, cge, lI_add, lI_sub, lI_mul, jadd, jsub, jmul, jneg, jtol, b010, b011, pv_2t, Int.toNat_natCast, Option.some.injEq, exists_eq_left', if_true, if_false, M, A, A2, e, x2, k2]
        exact fin v (by omega) hF.symm
  refine vs_ok 2 ?_
  rw [show ((gRes 246).drop 0).take 2 = [.iconst 0, .istore 2] from rfl]
  simp (disch := omega) only [vs_iconst, vs_istore2n, vs_istore2i, vs_istore2r, vs_istore2l, vs_nil, gv_0, gv_1, gv_2, gv_3, pv_0, pv_1, va_rf_s, Nat.reduceDiv, Nat.reduceMod, Nat.reduceAdd, Nat.reduceMul, Int.reduceToNat, true_and, and_true, and_self, cP_eq, cP_ne, cP_lt, cP_ge, cP_gt, cP_le, eL_i, eL_l, eL_r, eL_n, Option.toList_none, Option.toList_some, List.nil_append, List.cons_append, kkI, llI, nnI, rrI, jjI, kkJ, llJ, nnJ, rrJ, iiJ, zIIs, zJJs, nEF, nET, and_false, false_and, jmin, jmax, catS_n, catS_i, catS_r, catS_l, Nat.reduceLeDiff, j1eq1, n21, jt0, jt1, Bool.false_eq_true, Classical.not_not, true_or, or_true, false_or, or_false, true_imp_iff, false_imp_iff, not_true_eq_false, not_false_eq_true, jif0, jif1, jifb, ltT, ltF, leT, leF, eqT, eqF, jlt, jle, jeq, jlt0, jle0, jeq0, jge0, jgt0, jinB, jnat, clt, cle, ceq, cgt, cge, lI_add, lI_sub, lI_mul, jadd, jsub, jmul, jneg, jtol, b010, b011, pv_2t, Int.toNat_natCast, Option.some.injEq, exists_eq_left', if_true, if_false]
  exact lp 60 0 rfl rfl
