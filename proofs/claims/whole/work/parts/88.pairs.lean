/-! Pairs -/
abbrev paL : List (Nat × Nat) := [(14, 6500), (14, 100), (14, 100)]
theorem paF {h : Hp} {x : Nat} (ho : objA h x 4 paL) : (zK h x = 4 ∧ x < zN h) ∧ (zR h x 0 = some (x + 1) ∧ zK h (x + 1) = 14 ∧ x + 1 < zN h ∧ zL h (x + 1) = 6500) ∧ (zR h x 1 = some (x + 2) ∧ zK h (x + 2) = 14 ∧ x + 2 < zN h ∧ zL h (x + 2) = 100) ∧ (zR h x 2 = some (x + 3) ∧ zK h (x + 3) = 14 ∧ x + 3 < zN h ∧ zL h (x + 3) = 100) :=
  ⟨⟨ho.1, by have := ho.2.1; omega⟩, ho.e 0 (14, 6500) rfl, ho.e 1 (14, 100) rfl, ho.e 2 (14, 100) rfl⟩
theorem jmp {p : Prop} [Decidable p] {a b : Int} : (if p then Int32.ofInt a else Int32.ofInt b) = Int32.ofInt (if p then a else b) := by
  split <;> rfl
theorem t_paClear {d : Nat} {h : Hp} {x : Nat} {p q : Int} {Q : Nat → Option Value → Hp → Prop} (ho : objA h x 4 paL) (hq : ∀ g, fi (fun q => q = x) h g → zI g x 3 = iI 0 → zI g x 4 = iI p → zI g x 5 = iI q → Q 0 none g) : PR d m_Pairs_clear [.ref x, .int (iI p), .int (iI q)] h Q := by
  show PW d 49 0 [some (.ref x), some (.int (iI p)), some (.int (iI q))] [] h Q
  refine vs_ok 10 ?_
  rw [show ((gRes 49).drop 0).take 10 = [.aload 0, .iconst 0, .putfield 4030, .aload 0, .iload 1, .putfield 4040, .aload 0, .iload 2, .putfield 4050, .return_] from rfl]
  simp (disch := omega) only [vs_iconst, vs_putfield, vs_return_, vs_aload0, vs_iload1, vs_iload2, vs_nil, gv_0, gv_1, gv_2, gv_3, pv_0, pv_1, va_rf_s, Nat.reduceDiv, Nat.reduceMod, Nat.reduceAdd, Nat.reduceMul, Int.reduceToNat, true_and, and_true, and_self, cP_eq, cP_ne, cP_lt, cP_ge, cP_gt, cP_le, eL_i, eL_l, eL_r, eL_n, Option.toList_none, Option.toList_some, List.nil_append, List.cons_append, kkI, llI, nnI, rrI, jjI, kkJ, llJ, nnJ, rrJ, iiJ, zIIs, zJJs, nEF, nET, and_false, false_and, jmin, jmax, catS_n, catS_i, catS_r, catS_l, Nat.reduceLeDiff, j1eq1, n21, jt0, jt1, Bool.false_eq_true, Classical.not_not, true_or, or_true, false_or, or_false, true_imp_iff, false_imp_iff, not_true_eq_false, not_false_eq_true, jif0, jif1, jifb, ltT, ltF, leT, leF, eqT, eqF, jlt, jle, jeq, jlt0, jle0, jeq0, jge0, jgt0, jinB, jnat, clt, cle, ceq, cgt, cge, lI_add, lI_sub, lI_mul, jadd, jsub, jmul, jneg, jtol, b010, b011, pv_2t, Int.toNat_natCast, Option.some.injEq, exists_eq_left', if_true, if_false, paF ho, show gRc 49 = 0 from rfl]
  refine hq _ (((fi_I (S := fun q => q = x) rfl).I rfl).I rfl) ?_ ?_ ?_
  · rw [zI_s, if_neg (by omega), zI_s, if_neg (by omega), zI_s, if_pos ⟨rfl, rfl⟩]
  · rw [zI_s, if_neg (by omega), zI_s, if_pos ⟨rfl, rfl⟩]
  · rw [zI_s, if_pos ⟨rfl, rfl⟩]
theorem t_holds {d : Nat} {h : Hp} {x kp p q : Nat} {k w i : Int} {Q : Nat → Option Value → Hp → Prop} (ho : objA h x 4 paL) (h3 : zI h x 3 = iI kp) (h4 : zI h x 4 = iI p) (h5 : zI h x 5 = iI q) (hb : kp ≤ 100 ∧ p ≤ 64 ∧ q ≤ 64) (hk : i32 k) (hw : i32 w) (hi : i32 i) (hq : Q 0 (some (.int (iI (if (0 ≤ k ∧ k < kp) ∧ 0 ≤ i ∧ (w = 0 ∧ i < p ∨ w = 1 ∧ i < q) then 1 else 0)))) h) : PR d m_Pairs_holds [.ref x, .int (iI k), .int (iI w), .int (iI i)] h Q := by
  have N := paF ho
  have hk1 := hk.1
  have hk2 := hk.2
  have hw1 := hw.1
  have hw2 := hw.2
  have hi1 := hi.1
  have hi2 := hi.2
  show PW d 52 0 [some (.ref x), some (.int (iI k)), some (.int (iI w)), some (.int (iI i))] [] h Q
  have no8 : ¬ ((0 ≤ k ∧ k < kp) ∧ 0 ≤ i ∧ (w = 0 ∧ i < p ∨ w = 1 ∧ i < q)) → PW d 52 8 [some (.ref x), some (.int (iI k)), some (.int (iI w)), some (.int (iI i))] [] h Q := fun c => by
    rw [if_neg c] at hq
    refine vs_ok 2 ?_
    rw [show ((gRes 52).drop 8).take 2 = [.iconst 0, .ireturn] from rfl]
    simp (disch := omega) only [vs_iconst, vs_ireturn, vs_nil, gv_0, gv_1, gv_2, gv_3, pv_0, pv_1, va_rf_s, Nat.reduceDiv, Nat.reduceMod, Nat.reduceAdd, Nat.reduceMul, Int.reduceToNat, true_and, and_true, and_self, cP_eq, cP_ne, cP_lt, cP_ge, cP_gt, cP_le, eL_i, eL_l, eL_r, eL_n, Option.toList_none, Option.toList_some, List.nil_append, List.cons_append, kkI, llI, nnI, rrI, jjI, kkJ, llJ, nnJ, rrJ, iiJ, zIIs, zJJs, nEF, nET, and_false, false_and, jmin, jmax, catS_n, catS_i, catS_r, catS_l, Nat.reduceLeDiff, j1eq1, n21, jt0, jt1, Bool.false_eq_true, Classical.not_not, true_or, or_true, false_or, or_false, true_imp_iff, false_imp_iff, not_true_eq_false, not_false_eq_true, jif0, jif1, jifb, ltT, ltF, leT, leF, eqT, eqF, jlt, jle, jeq, jlt0, jle0, jeq0, jge0, jgt0, jinB, jnat, clt, cle, ceq, cgt, cge, lI_add, lI_sub, lI_mul, jadd, jsub, jmul, jneg, jtol, b010, b011, pv_2t, Int.toNat_natCast, Option.some.injEq, exists_eq_left', if_true, if_false, show gRc 52 = 2 from rfl]
    exact hq
  have no25 : ¬ ((0 ≤ k ∧ k < kp) ∧ 0 ≤ i ∧ (w = 0 ∧ i < p ∨ w = 1 ∧ i < q)) → PW d 52 25 [some (.ref x), some (.int (iI k)), some (.int (iI w)), some (.int (iI i))] [] h Q := fun c => by
    rw [if_neg c] at hq
    refine vs_ok 2 ?_
    rw [show ((gRes 52).drop 25).take 2 = [.iconst 0, .ireturn] from rfl]
    simp (disch := omega) only [vs_iconst, vs_ireturn, vs_nil, gv_0, gv_1, gv_2, gv_3, pv_0, pv_1, va_rf_s, Nat.reduceDiv, Nat.reduceMod, Nat.reduceAdd, Nat.reduceMul, Int.reduceToNat, true_and, and_true, and_self, cP_eq, cP_ne, cP_lt, cP_ge, cP_gt, cP_le, eL_i, eL_l, eL_r, eL_n, Option.toList_none, Option.toList_some, List.nil_append, List.cons_append, kkI, llI, nnI, rrI, jjI, kkJ, llJ, nnJ, rrJ, iiJ, zIIs, zJJs, nEF, nET, and_false, false_and, jmin, jmax, catS_n, catS_i, catS_r, catS_l, Nat.reduceLeDiff, j1eq1, n21, jt0, jt1, Bool.false_eq_true, Classical.not_not, true_or, or_true, false_or, or_false, true_imp_iff, false_imp_iff, not_true_eq_false, not_false_eq_true, jif0, jif1, jifb, ltT, ltF, leT, leF, eqT, eqF, jlt, jle, jeq, jlt0, jle0, jeq0, jge0, jgt0, jinB, jnat, clt, cle, ceq, cgt, cge, lI_add, lI_sub, lI_mul, jadd, jsub, jmul, jneg, jtol, b010, b011, pv_2t, Int.toNat_natCast, Option.some.injEq, exists_eq_left', if_true, if_false, show gRc 52 = 2 from rfl]
    exact hq
  have yes : ((0 ≤ k ∧ k < kp) ∧ 0 ≤ i ∧ (w = 0 ∧ i < p ∨ w = 1 ∧ i < q)) → PW d 52 23 [some (.ref x), some (.int (iI k)), some (.int (iI w)), some (.int (iI i))] [] h Q := fun c => by
    rw [if_pos c] at hq
    refine vs_ok 2 ?_
    rw [show ((gRes 52).drop 23).take 2 = [.iconst 1, .goto 26] from rfl]
    simp (disch := omega) only [vs_iconst, vs_goto, vs_nil, gv_0, gv_1, gv_2, gv_3, pv_0, pv_1, va_rf_s, Nat.reduceDiv, Nat.reduceMod, Nat.reduceAdd, Nat.reduceMul, Int.reduceToNat, true_and, and_true, and_self, cP_eq, cP_ne, cP_lt, cP_ge, cP_gt, cP_le, eL_i, eL_l, eL_r, eL_n, Option.toList_none, Option.toList_some, List.nil_append, List.cons_append, kkI, llI, nnI, rrI, jjI, kkJ, llJ, nnJ, rrJ, iiJ, zIIs, zJJs, nEF, nET, and_false, false_and, jmin, jmax, catS_n, catS_i, catS_r, catS_l, Nat.reduceLeDiff, j1eq1, n21, jt0, jt1, Bool.false_eq_true, Classical.not_not, true_or, or_true, false_or, or_false, true_imp_iff, false_imp_iff, not_true_eq_false, not_false_eq_true, jif0, jif1, jifb, ltT, ltF, leT, leF, eqT, eqF, jlt, jle, jeq, jlt0, jle0, jeq0, jge0, jgt0, jinB, jnat, clt, cle, ceq, cgt, cge, lI_add, lI_sub, lI_mul, jadd, jsub, jmul, jneg, jtol, b010, b011, pv_2t, Int.toNat_natCast, Option.some.injEq, exists_eq_left', if_true, if_false]
    refine vs_ok 1 ?_
    rw [show ((gRes 52).drop 26).take 1 = [.ireturn] from rfl]
    simp (disch := omega) only [vs_ireturn, vs_nil, gv_0, gv_1, gv_2, gv_3, pv_0, pv_1, va_rf_s, Nat.reduceDiv, Nat.reduceMod, Nat.reduceAdd, Nat.reduceMul, Int.reduceToNat, true_and, and_true, and_self, cP_eq, cP_ne, cP_lt, cP_ge, cP_gt, cP_le, eL_i, eL_l, eL_r, eL_n, Option.toList_none, Option.toList_some, List.nil_append, List.cons_append, kkI, llI, nnI, rrI, jjI, kkJ, llJ, nnJ, rrJ, iiJ, zIIs, zJJs, nEF, nET, and_false, false_and, jmin, jmax, catS_n, catS_i, catS_r, catS_l, Nat.reduceLeDiff, j1eq1, n21, jt0, jt1, Bool.false_eq_true, Classical.not_not, true_or, or_true, false_or, or_false, true_imp_iff, false_imp_iff, not_true_eq_false, not_false_eq_true, jif0, jif1, jifb, ltT, ltF, leT, leF, eqT, eqF, jlt, jle, jeq, jlt0, jle0, jeq0, jge0, jgt0, jinB, jnat, clt, cle, ceq, cgt, cge, lI_add, lI_sub, lI_mul, jadd, jsub, jmul, jneg, jtol, b010, b011, pv_2t, Int.toNat_natCast, Option.some.injEq, exists_eq_left', if_true, if_false, show gRc 52 = 2 from rfl]
    exact hq
  by_cases c1 : k < 0
  · refine vs_ok 2 ?_
    rw [show ((gRes 52).drop 0).take 2 = [.iload 1, .ifCond .lt 8] from rfl]
    simp (disch := omega) only [vs_ifCond, vs_iload1, vs_nil, gv_0, gv_1, gv_2, gv_3, pv_0, pv_1, va_rf_s, Nat.reduceDiv, Nat.reduceMod, Nat.reduceAdd, Nat.reduceMul, Int.reduceToNat, true_and, and_true, and_self, cP_eq, cP_ne, cP_lt, cP_ge, cP_gt, cP_le, eL_i, eL_l, eL_r, eL_n, Option.toList_none, Option.toList_some, List.nil_append, List.cons_append, kkI, llI, nnI, rrI, jjI, kkJ, llJ, nnJ, rrJ, iiJ, zIIs, zJJs, nEF, nET, and_false, false_and, jmin, jmax, catS_n, catS_i, catS_r, catS_l, Nat.reduceLeDiff, j1eq1, n21, jt0, jt1, Bool.false_eq_true, Classical.not_not, true_or, or_true, false_or, or_false, true_imp_iff, false_imp_iff, not_true_eq_false, not_false_eq_true, jif0, jif1, jifb, ltT, ltF, leT, leF, eqT, eqF, jlt, jle, jeq, jlt0, jle0, jeq0, jge0, jgt0, jinB, jnat, clt, cle, ceq, cgt, cge, lI_add, lI_sub, lI_mul, jadd, jsub, jmul, jneg, jtol, b010, b011, pv_2t, Int.toNat_natCast, Option.some.injEq, exists_eq_left', if_true, if_false]
    exact no8 (by omega)
  by_cases c2 : k < kp
  · by_cases c3 : i < 0
    · refine vs_ok 10 ?_
      rw [show ((gRes 52).drop 0).take 10 = [.iload 1, .ifCond .lt 8, .iload 1, .aload 0, .getfield 4030, .if_icmp .ge 8, .iload 3, .ifCond .ge 10, .iconst 0, .ireturn] from rfl]
      simp (disch := omega) only [vs_iconst, vs_if_icmp, vs_ifCond, vs_getfield, vs_ireturn, vs_aload0, vs_iload1, vs_iload3, vs_nil, gv_0, gv_1, gv_2, gv_3, pv_0, pv_1, va_rf_s, Nat.reduceDiv, Nat.reduceMod, Nat.reduceAdd, Nat.reduceMul, Int.reduceToNat, true_and, and_true, and_self, cP_eq, cP_ne, cP_lt, cP_ge, cP_gt, cP_le, eL_i, eL_l, eL_r, eL_n, Option.toList_none, Option.toList_some, List.nil_append, List.cons_append, kkI, llI, nnI, rrI, jjI, kkJ, llJ, nnJ, rrJ, iiJ, zIIs, zJJs, nEF, nET, and_false, false_and, jmin, jmax, catS_n, catS_i, catS_r, catS_l, Nat.reduceLeDiff, j1eq1, n21, jt0, jt1, Bool.false_eq_true, Classical.not_not, true_or, or_true, false_or, or_false, true_imp_iff, false_imp_iff, not_true_eq_false, not_false_eq_true, jif0, jif1, jifb, ltT, ltF, leT, leF, eqT, eqF, jlt, jle, jeq, jlt0, jle0, jeq0, jge0, jgt0, jinB, jnat, clt, cle, ceq, cgt, cge, lI_add, lI_sub, lI_mul, jadd, jsub, jmul, jneg, jtol, b010, b011, pv_2t, Int.toNat_natCast, Option.some.injEq, exists_eq_left', if_true, if_false, N, h3, show gRc 52 = 2 from rfl]
      rw [if_neg (by omega)] at hq
      exact hq
    · refine vs_ok 8 ?_
      rw [show ((gRes 52).drop 0).take 8 = [.iload 1, .ifCond .lt 8, .iload 1, .aload 0, .getfield 4030, .if_icmp .ge 8, .iload 3, .ifCond .ge 10] from rfl]
      simp (disch := omega) only [vs_if_icmp, vs_ifCond, vs_getfield, vs_aload0, vs_iload1, vs_iload3, vs_nil, gv_0, gv_1, gv_2, gv_3, pv_0, pv_1, va_rf_s, Nat.reduceDiv, Nat.reduceMod, Nat.reduceAdd, Nat.reduceMul, Int.reduceToNat, true_and, and_true, and_self, cP_eq, cP_ne, cP_lt, cP_ge, cP_gt, cP_le, eL_i, eL_l, eL_r, eL_n, Option.toList_none, Option.toList_some, List.nil_append, List.cons_append, kkI, llI, nnI, rrI, jjI, kkJ, llJ, nnJ, rrJ, iiJ, zIIs, zJJs, nEF, nET, and_false, false_and, jmin, jmax, catS_n, catS_i, catS_r, catS_l, Nat.reduceLeDiff, j1eq1, n21, jt0, jt1, Bool.false_eq_true, Classical.not_not, true_or, or_true, false_or, or_false, true_imp_iff, false_imp_iff, not_true_eq_false, not_false_eq_true, jif0, jif1, jifb, ltT, ltF, leT, leF, eqT, eqF, jlt, jle, jeq, jlt0, jle0, jeq0, jge0, jgt0, jinB, jnat, clt, cle, ceq, cgt, cge, lI_add, lI_sub, lI_mul, jadd, jsub, jmul, jneg, jtol, b010, b011, pv_2t, Int.toNat_natCast, Option.some.injEq, exists_eq_left', if_true, if_false, N, h3]
      by_cases c4 : w = 0
      · by_cases c5 : i < p
        · refine vs_ok 15 ?_
          rw [show ((gRes 52).drop 10).take 15 = [.iload 2, .ifCond .ne 16, .iload 3, .aload 0, .getfield 4040, .if_icmp .lt 23, .iload 2, .iconst 1, .if_icmp .ne 25, .iload 3, .aload 0, .getfield 4050, .if_icmp .ge 25, .iconst 1, .goto 26] from rfl]
          simp (disch := omega) only [vs_iconst, vs_goto, vs_if_icmp, vs_ifCond, vs_getfield, vs_aload0, vs_iload2, vs_iload3, vs_nil, gv_0, gv_1, gv_2, gv_3, pv_0, pv_1, va_rf_s, Nat.reduceDiv, Nat.reduceMod, Nat.reduceAdd, Nat.reduceMul, Int.reduceToNat, true_and, and_true, and_self, cP_eq, cP_ne, cP_lt, cP_ge, cP_gt, cP_le, eL_i, eL_l, eL_r, eL_n, Option.toList_none, Option.toList_some, List.nil_append, List.cons_append, kkI, llI, nnI, rrI, jjI, kkJ, llJ, nnJ, rrJ, iiJ, zIIs, zJJs, nEF, nET, and_false, false_and, jmin, jmax, catS_n, catS_i, catS_r, catS_l, Nat.reduceLeDiff, j1eq1, n21, jt0, jt1, Bool.false_eq_true, Classical.not_not, true_or, or_true, false_or, or_false, true_imp_iff, false_imp_iff, not_true_eq_false, not_false_eq_true, jif0, jif1, jifb, ltT, ltF, leT, leF, eqT, eqF, jlt, jle, jeq, jlt0, jle0, jeq0, jge0, jgt0, jinB, jnat, clt, cle, ceq, cgt, cge, lI_add, lI_sub, lI_mul, jadd, jsub, jmul, jneg, jtol, b010, b011, pv_2t, Int.toNat_natCast, Option.some.injEq, exists_eq_left', if_true, if_false, N, h4]
          exact yes (by omega)
        · refine vs_ok 6 ?_
          rw [show ((gRes 52).drop 10).take 6 = [.iload 2, .ifCond .ne 16, .iload 3, .aload 0, .getfield 4040, .if_icmp .lt 23] from rfl]
          simp (disch := omega) only [vs_if_icmp, vs_ifCond, vs_getfield, vs_aload0, vs_iload2, vs_iload3, vs_nil, gv_0, gv_1, gv_2, gv_3, pv_0, pv_1, va_rf_s, Nat.reduceDiv, Nat.reduceMod, Nat.reduceAdd, Nat.reduceMul, Int.reduceToNat, true_and, and_true, and_self, cP_eq, cP_ne, cP_lt, cP_ge, cP_gt, cP_le, eL_i, eL_l, eL_r, eL_n, Option.toList_none, Option.toList_some, List.nil_append, List.cons_append, kkI, llI, nnI, rrI, jjI, kkJ, llJ, nnJ, rrJ, iiJ, zIIs, zJJs, nEF, nET, and_false, false_and, jmin, jmax, catS_n, catS_i, catS_r, catS_l, Nat.reduceLeDiff, j1eq1, n21, jt0, jt1, Bool.false_eq_true, Classical.not_not, true_or, or_true, false_or, or_false, true_imp_iff, false_imp_iff, not_true_eq_false, not_false_eq_true, jif0, jif1, jifb, ltT, ltF, leT, leF, eqT, eqF, jlt, jle, jeq, jlt0, jle0, jeq0, jge0, jgt0, jinB, jnat, clt, cle, ceq, cgt, cge, lI_add, lI_sub, lI_mul, jadd, jsub, jmul, jneg, jtol, b010, b011, pv_2t, Int.toNat_natCast, Option.some.injEq, exists_eq_left', if_true, if_false, N, h4]
          refine vs_ok 3 ?_
          rw [show ((gRes 52).drop 16).take 3 = [.iload 2, .iconst 1, .if_icmp .ne 25] from rfl]
          simp (disch := omega) only [vs_iconst, vs_if_icmp, vs_iload2, vs_nil, gv_0, gv_1, gv_2, gv_3, pv_0, pv_1, va_rf_s, Nat.reduceDiv, Nat.reduceMod, Nat.reduceAdd, Nat.reduceMul, Int.reduceToNat, true_and, and_true, and_self, cP_eq, cP_ne, cP_lt, cP_ge, cP_gt, cP_le, eL_i, eL_l, eL_r, eL_n, Option.toList_none, Option.toList_some, List.nil_append, List.cons_append, kkI, llI, nnI, rrI, jjI, kkJ, llJ, nnJ, rrJ, iiJ, zIIs, zJJs, nEF, nET, and_false, false_and, jmin, jmax, catS_n, catS_i, catS_r, catS_l, Nat.reduceLeDiff, j1eq1, n21, jt0, jt1, Bool.false_eq_true, Classical.not_not, true_or, or_true, false_or, or_false, true_imp_iff, false_imp_iff, not_true_eq_false, not_false_eq_true, jif0, jif1, jifb, ltT, ltF, leT, leF, eqT, eqF, jlt, jle, jeq, jlt0, jle0, jeq0, jge0, jgt0, jinB, jnat, clt, cle, ceq, cgt, cge, lI_add, lI_sub, lI_mul, jadd, jsub, jmul, jneg, jtol, b010, b011, pv_2t, Int.toNat_natCast, Option.some.injEq, exists_eq_left', if_true, if_false]
          exact no25 (by omega)
      · by_cases c6 : w = 1
        · by_cases c7 : i < q
          · refine vs_ok 2 ?_
            rw [show ((gRes 52).drop 10).take 2 = [.iload 2, .ifCond .ne 16] from rfl]
            simp (disch := omega) only [vs_ifCond, vs_iload2, vs_nil, gv_0, gv_1, gv_2, gv_3, pv_0, pv_1, va_rf_s, Nat.reduceDiv, Nat.reduceMod, Nat.reduceAdd, Nat.reduceMul, Int.reduceToNat, true_and, and_true, and_self, cP_eq, cP_ne, cP_lt, cP_ge, cP_gt, cP_le, eL_i, eL_l, eL_r, eL_n, Option.toList_none, Option.toList_some, List.nil_append, List.cons_append, kkI, llI, nnI, rrI, jjI, kkJ, llJ, nnJ, rrJ, iiJ, zIIs, zJJs, nEF, nET, and_false, false_and, jmin, jmax, catS_n, catS_i, catS_r, catS_l, Nat.reduceLeDiff, j1eq1, n21, jt0, jt1, Bool.false_eq_true, Classical.not_not, true_or, or_true, false_or, or_false, true_imp_iff, false_imp_iff, not_true_eq_false, not_false_eq_true, jif0, jif1, jifb, ltT, ltF, leT, leF, eqT, eqF, jlt, jle, jeq, jlt0, jle0, jeq0, jge0, jgt0, jinB, jnat, clt, cle, ceq, cgt, cge, lI_add, lI_sub, lI_mul, jadd, jsub, jmul, jneg, jtol, b010, b011, pv_2t, Int.toNat_natCast, Option.some.injEq, exists_eq_left', if_true, if_false]
            refine vs_ok 7 ?_
            rw [show ((gRes 52).drop 16).take 7 = [.iload 2, .iconst 1, .if_icmp .ne 25, .iload 3, .aload 0, .getfield 4050, .if_icmp .ge 25] from rfl]
            simp (disch := omega) only [vs_iconst, vs_if_icmp, vs_getfield, vs_aload0, vs_iload2, vs_iload3, vs_nil, gv_0, gv_1, gv_2, gv_3, pv_0, pv_1, va_rf_s, Nat.reduceDiv, Nat.reduceMod, Nat.reduceAdd, Nat.reduceMul, Int.reduceToNat, true_and, and_true, and_self, cP_eq, cP_ne, cP_lt, cP_ge, cP_gt, cP_le, eL_i, eL_l, eL_r, eL_n, Option.toList_none, Option.toList_some, List.nil_append, List.cons_append, kkI, llI, nnI, rrI, jjI, kkJ, llJ, nnJ, rrJ, iiJ, zIIs, zJJs, nEF, nET, and_false, false_and, jmin, jmax, catS_n, catS_i, catS_r, catS_l, Nat.reduceLeDiff, j1eq1, n21, jt0, jt1, Bool.false_eq_true, Classical.not_not, true_or, or_true, false_or, or_false, true_imp_iff, false_imp_iff, not_true_eq_false, not_false_eq_true, jif0, jif1, jifb, ltT, ltF, leT, leF, eqT, eqF, jlt, jle, jeq, jlt0, jle0, jeq0, jge0, jgt0, jinB, jnat, clt, cle, ceq, cgt, cge, lI_add, lI_sub, lI_mul, jadd, jsub, jmul, jneg, jtol, b010, b011, pv_2t, Int.toNat_natCast, Option.some.injEq, exists_eq_left', if_true, if_false, N, h5]
            exact yes (by omega)
          · refine vs_ok 2 ?_
            rw [show ((gRes 52).drop 10).take 2 = [.iload 2, .ifCond .ne 16] from rfl]
            simp (disch := omega) only [vs_ifCond, vs_iload2, vs_nil, gv_0, gv_1, gv_2, gv_3, pv_0, pv_1, va_rf_s, Nat.reduceDiv, Nat.reduceMod, Nat.reduceAdd, Nat.reduceMul, Int.reduceToNat, true_and, and_true, and_self, cP_eq, cP_ne, cP_lt, cP_ge, cP_gt, cP_le, eL_i, eL_l, eL_r, eL_n, Option.toList_none, Option.toList_some, List.nil_append, List.cons_append, kkI, llI, nnI, rrI, jjI, kkJ, llJ, nnJ, rrJ, iiJ, zIIs, zJJs, nEF, nET, and_false, false_and, jmin, jmax, catS_n, catS_i, catS_r, catS_l, Nat.reduceLeDiff, j1eq1, n21, jt0, jt1, Bool.false_eq_true, Classical.not_not, true_or, or_true, false_or, or_false, true_imp_iff, false_imp_iff, not_true_eq_false, not_false_eq_true, jif0, jif1, jifb, ltT, ltF, leT, leF, eqT, eqF, jlt, jle, jeq, jlt0, jle0, jeq0, jge0, jgt0, jinB, jnat, clt, cle, ceq, cgt, cge, lI_add, lI_sub, lI_mul, jadd, jsub, jmul, jneg, jtol, b010, b011, pv_2t, Int.toNat_natCast, Option.some.injEq, exists_eq_left', if_true, if_false]
            refine vs_ok 9 ?_
            rw [show ((gRes 52).drop 16).take 9 = [.iload 2, .iconst 1, .if_icmp .ne 25, .iload 3, .aload 0, .getfield 4050, .if_icmp .ge 25, .iconst 1, .goto 26] from rfl]
            simp (disch := omega) only [vs_iconst, vs_goto, vs_if_icmp, vs_getfield, vs_aload0, vs_iload2, vs_iload3, vs_nil, gv_0, gv_1, gv_2, gv_3, pv_0, pv_1, va_rf_s, Nat.reduceDiv, Nat.reduceMod, Nat.reduceAdd, Nat.reduceMul, Int.reduceToNat, true_and, and_true, and_self, cP_eq, cP_ne, cP_lt, cP_ge, cP_gt, cP_le, eL_i, eL_l, eL_r, eL_n, Option.toList_none, Option.toList_some, List.nil_append, List.cons_append, kkI, llI, nnI, rrI, jjI, kkJ, llJ, nnJ, rrJ, iiJ, zIIs, zJJs, nEF, nET, and_false, false_and, jmin, jmax, catS_n, catS_i, catS_r, catS_l, Nat.reduceLeDiff, j1eq1, n21, jt0, jt1, Bool.false_eq_true, Classical.not_not, true_or, or_true, false_or, or_false, true_imp_iff, false_imp_iff, not_true_eq_false, not_false_eq_true, jif0, jif1, jifb, ltT, ltF, leT, leF, eqT, eqF, jlt, jle, jeq, jlt0, jle0, jeq0, jge0, jgt0, jinB, jnat, clt, cle, ceq, cgt, cge, lI_add, lI_sub, lI_mul, jadd, jsub, jmul, jneg, jtol, b010, b011, pv_2t, Int.toNat_natCast, Option.some.injEq, exists_eq_left', if_true, if_false, N, h5]
            exact no25 (by omega)
        · refine vs_ok 2 ?_
          rw [show ((gRes 52).drop 10).take 2 = [.iload 2, .ifCond .ne 16] from rfl]
          simp (disch := omega) only [vs_ifCond, vs_iload2, vs_nil, gv_0, gv_1, gv_2, gv_3, pv_0, pv_1, va_rf_s, Nat.reduceDiv, Nat.reduceMod, Nat.reduceAdd, Nat.reduceMul, Int.reduceToNat, true_and, and_true, and_self, cP_eq, cP_ne, cP_lt, cP_ge, cP_gt, cP_le, eL_i, eL_l, eL_r, eL_n, Option.toList_none, Option.toList_some, List.nil_append, List.cons_append, kkI, llI, nnI, rrI, jjI, kkJ, llJ, nnJ, rrJ, iiJ, zIIs, zJJs, nEF, nET, and_false, false_and, jmin, jmax, catS_n, catS_i, catS_r, catS_l, Nat.reduceLeDiff, j1eq1, n21, jt0, jt1, Bool.false_eq_true, Classical.not_not, true_or, or_true, false_or, or_false, true_imp_iff, false_imp_iff, not_true_eq_false, not_false_eq_true, jif0, jif1, jifb, ltT, ltF, leT, leF, eqT, eqF, jlt, jle, jeq, jlt0, jle0, jeq0, jge0, jgt0, jinB, jnat, clt, cle, ceq, cgt, cge, lI_add, lI_sub, lI_mul, jadd, jsub, jmul, jneg, jtol, b010, b011, pv_2t, Int.toNat_natCast, Option.some.injEq, exists_eq_left', if_true, if_false]
          refine vs_ok 3 ?_
          rw [show ((gRes 52).drop 16).take 3 = [.iload 2, .iconst 1, .if_icmp .ne 25] from rfl]
          simp (disch := omega) only [vs_iconst, vs_if_icmp, vs_iload2, vs_nil, gv_0, gv_1, gv_2, gv_3, pv_0, pv_1, va_rf_s, Nat.reduceDiv, Nat.reduceMod, Nat.reduceAdd, Nat.reduceMul, Int.reduceToNat, true_and, and_true, and_self, cP_eq, cP_ne, cP_lt, cP_ge, cP_gt, cP_le, eL_i, eL_l, eL_r, eL_n, Option.toList_none, Option.toList_some, List.nil_append, List.cons_append, kkI, llI, nnI, rrI, jjI, kkJ, llJ, nnJ, rrJ, iiJ, zIIs, zJJs, nEF, nET, and_false, false_and, jmin, jmax, catS_n, catS_i, catS_r, catS_l, Nat.reduceLeDiff, j1eq1, n21, jt0, jt1, Bool.false_eq_true, Classical.not_not, true_or, or_true, false_or, or_false, true_imp_iff, false_imp_iff, not_true_eq_false, not_false_eq_true, jif0, jif1, jifb, ltT, ltF, leT, leF, eqT, eqF, jlt, jle, jeq, jlt0, jle0, jeq0, jge0, jgt0, jinB, jnat, clt, cle, ceq, cgt, cge, lI_add, lI_sub, lI_mul, jadd, jsub, jmul, jneg, jtol, b010, b011, pv_2t, Int.toNat_natCast, Option.some.injEq, exists_eq_left', if_true, if_false]
          exact no25 (by omega)
  · refine vs_ok 10 ?_
    rw [show ((gRes 52).drop 0).take 10 = [.iload 1, .ifCond .lt 8, .iload 1, .aload 0, .getfield 4030, .if_icmp .ge 8, .iload 3, .ifCond .ge 10, .iconst 0, .ireturn] from rfl]
    simp (disch := omega) only [vs_iconst, vs_if_icmp, vs_ifCond, vs_getfield, vs_ireturn, vs_aload0, vs_iload1, vs_iload3, vs_nil, gv_0, gv_1, gv_2, gv_3, pv_0, pv_1, va_rf_s, Nat.reduceDiv, Nat.reduceMod, Nat.reduceAdd, Nat.reduceMul, Int.reduceToNat, true_and, and_true, and_self, cP_eq, cP_ne, cP_lt, cP_ge, cP_gt, cP_le, eL_i, eL_l, eL_r, eL_n, Option.toList_none, Option.toList_some, List.nil_append, List.cons_append, kkI, llI, nnI, rrI, jjI, kkJ, llJ, nnJ, rrJ, iiJ, zIIs, zJJs, nEF, nET, and_false, false_and, jmin, jmax, catS_n, catS_i, catS_r, catS_l, Nat.reduceLeDiff, j1eq1, n21, jt0, jt1, Bool.false_eq_true, Classical.not_not, true_or, or_true, false_or, or_false, true_imp_iff, false_imp_iff, not_true_eq_false, not_false_eq_true, jif0, jif1, jifb, ltT, ltF, leT, leF, eqT, eqF, jlt, jle, jeq, jlt0, jle0, jeq0, jge0, jgt0, jinB, jnat, clt, cle, ceq, cgt, cge, lI_add, lI_sub, lI_mul, jadd, jsub, jmul, jneg, jtol, b010, b011, pv_2t, Int.toNat_natCast, Option.some.injEq, exists_eq_left', if_true, if_false, N, h3, show gRc 52 = 2 from rfl]
    exact no8 (by omega)
/-- where start comes among k starts that rise -/
def atF (st : Nat → Nat) (v : Nat) : Nat → Nat
  | 0 => 0
  | k + 1 => if v < st k then atF st v k else k + 1
theorem atF_le (st : Nat → Nat) (v : Nat) : ∀ k, atF st v k ≤ k
  | 0 => Nat.le_refl _
  | k + 1 => by
    have := atF_le st v k
    unfold atF
    split <;> omega
/-- v put in at place a of kp places -/
def shF (st : Nat → Nat) (a kp v i : Nat) : Nat := if i < a then st i else if i = a then v else if i < kp then st (i - 1) else st i
theorem t_makeRoom {d : Nat} {h : Hp} {x kp v : Nat} {st sl : Nat → Nat} {Q : Nat → Option Value → Hp → Prop} (ho : objA h x 4 paL) (h3 : zI h x 3 = iI kp) (hk : kp ≤ 100) (hv : v ≤ 60) (hst : ∀ i, i < 100 → st i ≤ 60 ∧ zI h (x + 2) i = iI (st i)) (hsl : ∀ i, i < 100 → zI h (x + 3) i = iI (sl i))
    (hq0 : atF st v kp = 100 → Q 0 (some (.int (iI (-1)))) h)
    (hq1 : atF st v kp < 100 → ∀ g, fi (fun q => q = x ∨ q = x + 2 ∨ q = x + 3) h g → zI g x 3 = iI (min (kp + 1) 100 : Nat) → zI g x 4 = zI h x 4 → zI g x 5 = zI h x 5 → (∀ i, i < 100 → zI g (x + 2) i = iI (shF st (atF st v kp) (min (kp + 1) 100) v i)) → (∀ i, i < 100 → zI g (x + 3) i = iI (shF sl (atF st v kp) (min (kp + 1) 100) (if kp < 100 then kp else sl 99) i)) → Q 0 (some (.int (iI (if kp < 100 then kp else sl 99 : Nat)))) g) : PR d m_Pairs_makeRoom [.ref x, .int (iI v)] h Q := by
  have N := paF ho
  have al := atF_le st v kp
  show PW d 50 0 [some (.ref x), some (.int (iI v)), none, none, none] [] h Q
  generalize hA : atF st v kp = A at *
  generalize hS : (if kp < 100 then kp else sl 99 : Nat) = S at *
  generalize hK : min (kp + 1) 100 = K at *
  -- behind the search
  have p15 : A < 100 → PW d 50 20 [some (.ref x), some (.int (iI v)), some (.int (iI A)), none, none] [] h Q := fun hA1 => by
    have p32 : PW d 50 31 [some (.ref x), some (.int (iI v)), some (.int (iI A)), none, none] [.int (iI S)] h Q := by
      have mk : (if (100 : Int) < (kp : Int) + 1 then (100 : Int) else (kp : Int) + 1) = ((K : Nat) : Int) := by
        split <;> omega
      refine vs_ok 9 ?_
      rw [show ((gRes 50).drop 31).take 9 = [.istore 3, .aload 0, .aload 0, .getfield 4030, .iconst 1, .iadd, .iconst 100, .invokedynamic 3, .putfield 4030] from rfl]
      simp (disch := omega) only [vs_iadd, vs_iconst, vs_getfield, vs_putfield, vs_aload0, vs_istore3n, vs_istore3i, vs_istore3r, vs_istore3l, vs_nil, gv_0, gv_1, gv_2, gv_3, pv_0, pv_1, va_rf_s, vs_abs, vs_max, vs_min, vs_oinit, Nat.reduceDiv, Nat.reduceMod, Nat.reduceAdd, Nat.reduceMul, Int.reduceToNat, true_and, and_true, and_self, cP_eq, cP_ne, cP_lt, cP_ge, cP_gt, cP_le, eL_i, eL_l, eL_r, eL_n, Option.toList_none, Option.toList_some, List.nil_append, List.cons_append, kkI, llI, nnI, rrI, jjI, kkJ, llJ, nnJ, rrJ, iiJ, zIIs, zJJs, nEF, nET, and_false, false_and, jmin, jmax, catS_n, catS_i, catS_r, catS_l, Nat.reduceLeDiff, j1eq1, n21, jt0, jt1, Bool.false_eq_true, Classical.not_not, true_or, or_true, false_or, or_false, true_imp_iff, false_imp_iff, not_true_eq_false, not_false_eq_true, jif0, jif1, jifb, ltT, ltF, leT, leF, eqT, eqF, jlt, jle, jeq, jlt0, jle0, jeq0, jge0, jgt0, jinB, jnat, clt, cle, ceq, cgt, cge, lI_add, lI_sub, lI_mul, jadd, jsub, jmul, jneg, jtol, b010, b011, pv_2t, Int.toNat_natCast, Option.some.injEq, exists_eq_left', if_true, if_false, N, h3, jmp, mk]
      have f1 : fi (fun q => q = x) h (zsI h x 3 (iI K)) := fi_I rfl
      have z3 : zI (zsI h x 3 (iI K)) x 3 = iI K := by rw [zI_s, if_pos ⟨rfl, rfl⟩]
      have z4 : zI (zsI h x 3 (iI K)) x 4 = zI h x 4 := by rw [zI_s, if_neg (by omega)]
      have z5 : zI (zsI h x 3 (iI K)) x 5 = zI h x 5 := by rw [zI_s, if_neg (by omega)]
      have a2 : zI (zsI h x 3 (iI K)) (x + 2) = zI h (x + 2) := f1.1.2.2.2.2.2.1 _ (by omega)
      have a3 : zI (zsI h x 3 (iI K)) (x + 3) = zI h (x + 3) := f1.1.2.2.2.2.2.1 _ (by omega)
      generalize zsI h x 3 (iI K) = g0 at *
      have o0 := ho.fi f1
      have lp : ∀ (k i : Nat) (g : Hp), k + A = i → i ≤ K - 1 → fi (fun q => q = x + 2 ∨ q = x + 3) g0 g → (∀ j, j < 100 → zI g (x + 2) j = iI (if i < j ∧ j < K then st (j - 1) else st j : Nat)) → (∀ j, j < 100 → zI g (x + 3) j = iI (if i < j ∧ j < K then sl (j - 1) else sl j : Nat)) → PW d 50 45 [some (.ref x), some (.int (iI v)), some (.int (iI A)), some (.int (iI S)), some (.int (iI i))] [] g Q := by
        intro k
        induction k with
        | zero =>
          intro i g hki hiK f e2 e3
          have e : i = A := by omega
          subst e
          have Ng := paF (o0.fi f)
          have gx : zI g x = zI g0 x := f.1.2.2.2.2.2.1 _ (by omega)
          refine vs_ok 3 ?_
          rw [show ((gRes 50).drop 45).take 3 = [.iload 4, .iload 2, .if_icmp .le 70] from rfl]
          simp (disch := omega) only [vs_if_icmp, vs_iload2, vs_iload4, vs_nil, gv_0, gv_1, gv_2, gv_3, pv_0, pv_1, va_rf_s, Nat.reduceDiv, Nat.reduceMod, Nat.reduceAdd, Nat.reduceMul, Int.reduceToNat, true_and, and_true, and_self, cP_eq, cP_ne, cP_lt, cP_ge, cP_gt, cP_le, eL_i, eL_l, eL_r, eL_n, Option.toList_none, Option.toList_some, List.nil_append, List.cons_append, kkI, llI, nnI, rrI, jjI, kkJ, llJ, nnJ, rrJ, iiJ, zIIs, zJJs, nEF, nET, and_false, false_and, jmin, jmax, catS_n, catS_i, catS_r, catS_l, Nat.reduceLeDiff, j1eq1, n21, jt0, jt1, Bool.false_eq_true, Classical.not_not, true_or, or_true, false_or, or_false, true_imp_iff, false_imp_iff, not_true_eq_false, not_false_eq_true, jif0, jif1, jifb, ltT, ltF, leT, leF, eqT, eqF, jlt, jle, jeq, jlt0, jle0, jeq0, jge0, jgt0, jinB, jnat, clt, cle, ceq, cgt, cge, lI_add, lI_sub, lI_mul, jadd, jsub, jmul, jneg, jtol, b010, b011, pv_2t, Int.toNat_natCast, Option.some.injEq, exists_eq_left', if_true, if_false]
          refine vs_ok 12 ?_
          rw [show ((gRes 50).drop 70).take 12 = [.aload 0, .getfield 4012, .iload 2, .iload 1, .iastore, .aload 0, .getfield 4022, .iload 2, .iload 3, .iastore, .iload 3, .ireturn] from rfl]
          simp (disch := omega) only [vs_getfield, vs_iastore, vs_ireturn, vs_aload0, vs_iload1, vs_iload2, vs_iload3, vs_nil, gv_0, gv_1, gv_2, gv_3, pv_0, pv_1, va_rf_s, Nat.reduceDiv, Nat.reduceMod, Nat.reduceAdd, Nat.reduceMul, Int.reduceToNat, true_and, and_true, and_self, cP_eq, cP_ne, cP_lt, cP_ge, cP_gt, cP_le, eL_i, eL_l, eL_r, eL_n, Option.toList_none, Option.toList_some, List.nil_append, List.cons_append, kkI, llI, nnI, rrI, jjI, kkJ, llJ, nnJ, rrJ, iiJ, zIIs, zJJs, nEF, nET, and_false, false_and, jmin, jmax, catS_n, catS_i, catS_r, catS_l, Nat.reduceLeDiff, j1eq1, n21, jt0, jt1, Bool.false_eq_true, Classical.not_not, true_or, or_true, false_or, or_false, true_imp_iff, false_imp_iff, not_true_eq_false, not_false_eq_true, jif0, jif1, jifb, ltT, ltF, leT, leF, eqT, eqF, jlt, jle, jeq, jlt0, jle0, jeq0, jge0, jgt0, jinB, jnat, clt, cle, ceq, cgt, cge, lI_add, lI_sub, lI_mul, jadd, jsub, jmul, jneg, jtol, b010, b011, pv_2t, Int.toNat_natCast, Option.some.injEq, exists_eq_left', if_true, if_false, Ng, show gRc 50 = 1 from rfl]
          refine hq1 hA1 _ (((f1.wk fun q z => by omega).tr (f.wk fun q z => by omega)).I (by omega) |>.I (by omega)) ?_ ?_ ?_ (fun j hj => ?_) fun j hj => ?_
          · rw [zI_s, if_neg (by omega), zI_s, if_neg (by omega), gx]; exact z3
          · rw [zI_s, if_neg (by omega), zI_s, if_neg (by omega), gx]; exact z4
          · rw [zI_s, if_neg (by omega), zI_s, if_neg (by omega), gx]; exact z5
          · rw [zI_s, if_neg (by omega), zI_s]
            unfold shF
            by_cases c : j = i
            · rw [if_pos ⟨rfl, c⟩, if_neg (by omega), if_pos c]
            · rw [if_neg (fun z => c z.2), e2 j hj]
              by_cases c1 : j < i
              · rw [if_pos c1, if_neg (by omega)]
              · rw [if_neg c1, if_neg c]
                by_cases c2 : j < K
                · rw [if_pos c2, if_pos ⟨by omega, c2⟩]
                · rw [if_neg c2, if_neg (by omega)]
          · rw [zI_s]
            unfold shF
            by_cases c : j = i
            · rw [if_pos ⟨rfl, c⟩, if_neg (by omega), if_pos c]
            · rw [if_neg (fun z => c z.2), zI_s, if_neg (by omega), e3 j hj]
              by_cases c1 : j < i
              · rw [if_pos c1, if_neg (by omega)]
              · rw [if_neg c1, if_neg c]
                by_cases c2 : j < K
                · rw [if_pos c2, if_pos ⟨by omega, c2⟩]
                · rw [if_neg c2, if_neg (by omega)]
        | succ k ih =>
          intro i g hki hiK f e2 e3
          have Ng := paF (o0.fi f)
          have m1 : (i : Int) - 1 = ((i - 1 : Nat) : Int) := by omega
          have q2 := e2 (i - 1) (by omega)
          have q3 := e3 (i - 1) (by omega)
          rw [if_neg (by omega)] at q2 q3
          refine vs_ok 3 ?_
          rw [show ((gRes 50).drop 45).take 3 = [.iload 4, .iload 2, .if_icmp .le 70] from rfl]
          simp (disch := omega) only [vs_if_icmp, vs_iload2, vs_iload4, vs_nil, gv_0, gv_1, gv_2, gv_3, pv_0, pv_1, va_rf_s, Nat.reduceDiv, Nat.reduceMod, Nat.reduceAdd, Nat.reduceMul, Int.reduceToNat, true_and, and_true, and_self, cP_eq, cP_ne, cP_lt, cP_ge, cP_gt, cP_le, eL_i, eL_l, eL_r, eL_n, Option.toList_none, Option.toList_some, List.nil_append, List.cons_append, kkI, llI, nnI, rrI, jjI, kkJ, llJ, nnJ, rrJ, iiJ, zIIs, zJJs, nEF, nET, and_false, false_and, jmin, jmax, catS_n, catS_i, catS_r, catS_l, Nat.reduceLeDiff, j1eq1, n21, jt0, jt1, Bool.false_eq_true, Classical.not_not, true_or, or_true, false_or, or_false, true_imp_iff, false_imp_iff, not_true_eq_false, not_false_eq_true, jif0, jif1, jifb, ltT, ltF, leT, leF, eqT, eqF, jlt, jle, jeq, jlt0, jle0, jeq0, jge0, jgt0, jinB, jnat, clt, cle, ceq, cgt, cge, lI_add, lI_sub, lI_mul, jadd, jsub, jmul, jneg, jtol, b010, b011, pv_2t, Int.toNat_natCast, Option.some.injEq, exists_eq_left', if_true, if_false]
          refine vs_ok 20 ?_
          rw [show ((gRes 50).drop 48).take 20 = [.aload 0, .getfield 4012, .iload 4, .aload 0, .getfield 4012, .iload 4, .iconst 1, .isub, .iaload, .iastore, .aload 0, .getfield 4022, .iload 4, .aload 0, .getfield 4022, .iload 4, .iconst 1, .isub, .iaload, .iastore] from rfl]
          simp (disch := omega) only [vs_isub, vs_iconst, vs_getfield, vs_iaload, vs_iastore, vs_aload0, vs_iload4, vs_nil, gv_0, gv_1, gv_2, gv_3, pv_0, pv_1, va_rf_s, Nat.reduceDiv, Nat.reduceMod, Nat.reduceAdd, Nat.reduceMul, Int.reduceToNat, true_and, and_true, and_self, cP_eq, cP_ne, cP_lt, cP_ge, cP_gt, cP_le, eL_i, eL_l, eL_r, eL_n, Option.toList_none, Option.toList_some, List.nil_append, List.cons_append, kkI, llI, nnI, rrI, jjI, kkJ, llJ, nnJ, rrJ, iiJ, zIIs, zJJs, nEF, nET, and_false, false_and, jmin, jmax, catS_n, catS_i, catS_r, catS_l, Nat.reduceLeDiff, j1eq1, n21, jt0, jt1, Bool.false_eq_true, Classical.not_not, true_or, or_true, false_or, or_false, true_imp_iff, false_imp_iff, not_true_eq_false, not_false_eq_true, jif0, jif1, jifb, ltT, ltF, leT, leF, eqT, eqF, jlt, jle, jeq, jlt0, jle0, jeq0, jge0, jgt0, jinB, jnat, clt, cle, ceq, cgt, cge, lI_add, lI_sub, lI_mul, jadd, jsub, jmul, jneg, jtol, b010, b011, pv_2t, Int.toNat_natCast, Option.some.injEq, exists_eq_left', if_true, if_false, Ng, m1, q2, q3]
          have m2 : (i : Int) + (-1) = ((i - 1 : Nat) : Int) := by omega
          refine vs_ok 2 ?_
          rw [show ((gRes 50).drop 68).take 2 = [.iinc 4 (-1), .goto 45] from rfl]
          simp (disch := omega) only [vs_goto, vs_iinc4n, vs_iinc4i, vs_iinc4r, vs_iinc4l, vs_nil, gv_0, gv_1, gv_2, gv_3, pv_0, pv_1, va_rf_s, Nat.reduceDiv, Nat.reduceMod, Nat.reduceAdd, Nat.reduceMul, Int.reduceToNat, true_and, and_true, and_self, cP_eq, cP_ne, cP_lt, cP_ge, cP_gt, cP_le, eL_i, eL_l, eL_r, eL_n, Option.toList_none, Option.toList_some, List.nil_append, List.cons_append, kkI, llI, nnI, rrI, jjI, kkJ, llJ, nnJ, rrJ, iiJ, zIIs, zJJs, nEF, nET, and_false, false_and, jmin, jmax, catS_n, catS_i, catS_r, catS_l, Nat.reduceLeDiff, j1eq1, n21, jt0, jt1, Bool.false_eq_true, Classical.not_not, true_or, or_true, false_or, or_false, true_imp_iff, false_imp_iff, not_true_eq_false, not_false_eq_true, jif0, jif1, jifb, ltT, ltF, leT, leF, eqT, eqF, jlt, jle, jeq, jlt0, jle0, jeq0, jge0, jgt0, jinB, jnat, clt, cle, ceq, cgt, cge, lI_add, lI_sub, lI_mul, jadd, jsub, jmul, jneg, jtol, b010, b011, pv_2t, Int.toNat_natCast, Option.some.injEq, exists_eq_left', if_true, if_false, m2]
          refine ih (i - 1) _ (by omega) (by omega) ((f.I (Or.inl rfl)).I (Or.inr rfl)) (fun j hj => ?_) fun j hj => ?_
          · rw [zI_s, if_neg (by omega), zI_s]
            by_cases c : j = i
            · rw [if_pos ⟨rfl, c⟩, if_pos (by omega), c]
            · rw [if_neg (fun z => c z.2), e2 j hj]
              by_cases c2 : i < j ∧ j < K
              · rw [if_pos c2, if_pos (by omega)]
              · rw [if_neg c2, if_neg (by omega)]
          · rw [zI_s]
            by_cases c : j = i
            · rw [if_pos ⟨rfl, c⟩, if_pos (by omega), c]
            · rw [if_neg (fun z => c z.2), zI_s, if_neg (by omega), e3 j hj]
              by_cases c2 : i < j ∧ j < K
              · rw [if_pos c2, if_pos (by omega)]
              · rw [if_neg c2, if_neg (by omega)]
      have m3 : (K : Int) - 1 = ((K - 1 : Nat) : Int) := by omega
      refine vs_ok 5 ?_
      rw [show ((gRes 50).drop 40).take 5 = [.aload 0, .getfield 4030, .iconst 1, .isub, .istore 4] from rfl]
      simp (disch := omega) only [vs_isub, vs_iconst, vs_getfield, vs_aload0, vs_istore4n, vs_istore4i, vs_istore4r, vs_istore4l, vs_nil, gv_0, gv_1, gv_2, gv_3, pv_0, pv_1, va_rf_s, Nat.reduceDiv, Nat.reduceMod, Nat.reduceAdd, Nat.reduceMul, Int.reduceToNat, true_and, and_true, and_self, cP_eq, cP_ne, cP_lt, cP_ge, cP_gt, cP_le, eL_i, eL_l, eL_r, eL_n, Option.toList_none, Option.toList_some, List.nil_append, List.cons_append, kkI, llI, nnI, rrI, jjI, kkJ, llJ, nnJ, rrJ, iiJ, zIIs, zJJs, nEF, nET, and_false, false_and, jmin, jmax, catS_n, catS_i, catS_r, catS_l, Nat.reduceLeDiff, j1eq1, n21, jt0, jt1, Bool.false_eq_true, Classical.not_not, true_or, or_true, false_or, or_false, true_imp_iff, false_imp_iff, not_true_eq_false, not_false_eq_true, jif0, jif1, jifb, ltT, ltF, leT, leF, eqT, eqF, jlt, jle, jeq, jlt0, jle0, jeq0, jge0, jgt0, jinB, jnat, clt, cle, ceq, cgt, cge, lI_add, lI_sub, lI_mul, jadd, jsub, jmul, jneg, jtol, b010, b011, pv_2t, Int.toNat_natCast, Option.some.injEq, exists_eq_left', if_true, if_false, paF o0, z3, m3]
      exact lp (K - 1 - A) (K - 1) g0 (by omega) (Nat.le_refl _) fi.rf (fun j hj => by rw [if_neg (by omega), a2]; exact (hst j hj).2) fun j hj => by rw [if_neg (by omega), a3]; exact hsl j hj
    by_cases c : kp < 100
    · rw [if_pos c] at hS
      subst hS
      refine vs_ok 4 ?_
      rw [show ((gRes 50).drop 20).take 4 = [.aload 0, .getfield 4030, .iconst 100, .if_icmp .ge 27] from rfl]
      simp (disch := omega) only [vs_iconst, vs_if_icmp, vs_getfield, vs_aload0, vs_nil, gv_0, gv_1, gv_2, gv_3, pv_0, pv_1, va_rf_s, Nat.reduceDiv, Nat.reduceMod, Nat.reduceAdd, Nat.reduceMul, Int.reduceToNat, true_and, and_true, and_self, cP_eq, cP_ne, cP_lt, cP_ge, cP_gt, cP_le, eL_i, eL_l, eL_r, eL_n, Option.toList_none, Option.toList_some, List.nil_append, List.cons_append, kkI, llI, nnI, rrI, jjI, kkJ, llJ, nnJ, rrJ, iiJ, zIIs, zJJs, nEF, nET, and_false, false_and, jmin, jmax, catS_n, catS_i, catS_r, catS_l, Nat.reduceLeDiff, j1eq1, n21, jt0, jt1, Bool.false_eq_true, Classical.not_not, true_or, or_true, false_or, or_false, true_imp_iff, false_imp_iff, not_true_eq_false, not_false_eq_true, jif0, jif1, jifb, ltT, ltF, leT, leF, eqT, eqF, jlt, jle, jeq, jlt0, jle0, jeq0, jge0, jgt0, jinB, jnat, clt, cle, ceq, cgt, cge, lI_add, lI_sub, lI_mul, jadd, jsub, jmul, jneg, jtol, b010, b011, pv_2t, Int.toNat_natCast, Option.some.injEq, exists_eq_left', if_true, if_false, N, h3]
      refine vs_ok 3 ?_
      rw [show ((gRes 50).drop 24).take 3 = [.aload 0, .getfield 4030, .goto 31] from rfl]
      simp (disch := omega) only [vs_goto, vs_getfield, vs_aload0, vs_nil, gv_0, gv_1, gv_2, gv_3, pv_0, pv_1, va_rf_s, Nat.reduceDiv, Nat.reduceMod, Nat.reduceAdd, Nat.reduceMul, Int.reduceToNat, true_and, and_true, and_self, cP_eq, cP_ne, cP_lt, cP_ge, cP_gt, cP_le, eL_i, eL_l, eL_r, eL_n, Option.toList_none, Option.toList_some, List.nil_append, List.cons_append, kkI, llI, nnI, rrI, jjI, kkJ, llJ, nnJ, rrJ, iiJ, zIIs, zJJs, nEF, nET, and_false, false_and, jmin, jmax, catS_n, catS_i, catS_r, catS_l, Nat.reduceLeDiff, j1eq1, n21, jt0, jt1, Bool.false_eq_true, Classical.not_not, true_or, or_true, false_or, or_false, true_imp_iff, false_imp_iff, not_true_eq_false, not_false_eq_true, jif0, jif1, jifb, ltT, ltF, leT, leF, eqT, eqF, jlt, jle, jeq, jlt0, jle0, jeq0, jge0, jgt0, jinB, jnat, clt, cle, ceq, cgt, cge, lI_add, lI_sub, lI_mul, jadd, jsub, jmul, jneg, jtol, b010, b011, pv_2t, Int.toNat_natCast, Option.some.injEq, exists_eq_left', if_true, if_false, N, h3]
      exact p32
    · rw [if_neg c] at hS
      refine vs_ok 4 ?_
      rw [show ((gRes 50).drop 20).take 4 = [.aload 0, .getfield 4030, .iconst 100, .if_icmp .ge 27] from rfl]
      simp (disch := omega) only [vs_iconst, vs_if_icmp, vs_getfield, vs_aload0, vs_nil, gv_0, gv_1, gv_2, gv_3, pv_0, pv_1, va_rf_s, Nat.reduceDiv, Nat.reduceMod, Nat.reduceAdd, Nat.reduceMul, Int.reduceToNat, true_and, and_true, and_self, cP_eq, cP_ne, cP_lt, cP_ge, cP_gt, cP_le, eL_i, eL_l, eL_r, eL_n, Option.toList_none, Option.toList_some, List.nil_append, List.cons_append, kkI, llI, nnI, rrI, jjI, kkJ, llJ, nnJ, rrJ, iiJ, zIIs, zJJs, nEF, nET, and_false, false_and, jmin, jmax, catS_n, catS_i, catS_r, catS_l, Nat.reduceLeDiff, j1eq1, n21, jt0, jt1, Bool.false_eq_true, Classical.not_not, true_or, or_true, false_or, or_false, true_imp_iff, false_imp_iff, not_true_eq_false, not_false_eq_true, jif0, jif1, jifb, ltT, ltF, leT, leF, eqT, eqF, jlt, jle, jeq, jlt0, jle0, jeq0, jge0, jgt0, jinB, jnat, clt, cle, ceq, cgt, cge, lI_add, lI_sub, lI_mul, jadd, jsub, jmul, jneg, jtol, b010, b011, pv_2t, Int.toNat_natCast, Option.some.injEq, exists_eq_left', if_true, if_false, N, h3]
      refine vs_ok 4 ?_
      rw [show ((gRes 50).drop 27).take 4 = [.aload 0, .getfield 4022, .iconst 99, .iaload] from rfl]
      simp (disch := omega) only [vs_iconst, vs_getfield, vs_iaload, vs_aload0, vs_nil, gv_0, gv_1, gv_2, gv_3, pv_0, pv_1, va_rf_s, Nat.reduceDiv, Nat.reduceMod, Nat.reduceAdd, Nat.reduceMul, Int.reduceToNat, true_and, and_true, and_self, cP_eq, cP_ne, cP_lt, cP_ge, cP_gt, cP_le, eL_i, eL_l, eL_r, eL_n, Option.toList_none, Option.toList_some, List.nil_append, List.cons_append, kkI, llI, nnI, rrI, jjI, kkJ, llJ, nnJ, rrJ, iiJ, zIIs, zJJs, nEF, nET, and_false, false_and, jmin, jmax, catS_n, catS_i, catS_r, catS_l, Nat.reduceLeDiff, j1eq1, n21, jt0, jt1, Bool.false_eq_true, Classical.not_not, true_or, or_true, false_or, or_false, true_imp_iff, false_imp_iff, not_true_eq_false, not_false_eq_true, jif0, jif1, jifb, ltT, ltF, leT, leF, eqT, eqF, jlt, jle, jeq, jlt0, jle0, jeq0, jge0, jgt0, jinB, jnat, clt, cle, ceq, cgt, cge, lI_add, lI_sub, lI_mul, jadd, jsub, jmul, jneg, jtol, b010, b011, pv_2t, Int.toNat_natCast, Option.some.injEq, exists_eq_left', if_true, if_false, N, hsl 99 (by omega), hS, show ((99 : Int).toNat) = 99 from rfl]
      exact p32
  have done : PW d 50 15 [some (.ref x), some (.int (iI v)), some (.int (iI A)), none, none] [] h Q := by
    by_cases c : A < 100
    · refine vs_ok 3 ?_
      rw [show ((gRes 50).drop 15).take 3 = [.iload 2, .iconst 100, .if_icmp .lt 20] from rfl]
      simp (disch := omega) only [vs_iconst, vs_if_icmp, vs_iload2, vs_nil, gv_0, gv_1, gv_2, gv_3, pv_0, pv_1, va_rf_s, Nat.reduceDiv, Nat.reduceMod, Nat.reduceAdd, Nat.reduceMul, Int.reduceToNat, true_and, and_true, and_self, cP_eq, cP_ne, cP_lt, cP_ge, cP_gt, cP_le, eL_i, eL_l, eL_r, eL_n, Option.toList_none, Option.toList_some, List.nil_append, List.cons_append, kkI, llI, nnI, rrI, jjI, kkJ, llJ, nnJ, rrJ, iiJ, zIIs, zJJs, nEF, nET, and_false, false_and, jmin, jmax, catS_n, catS_i, catS_r, catS_l, Nat.reduceLeDiff, j1eq1, n21, jt0, jt1, Bool.false_eq_true, Classical.not_not, true_or, or_true, false_or, or_false, true_imp_iff, false_imp_iff, not_true_eq_false, not_false_eq_true, jif0, jif1, jifb, ltT, ltF, leT, leF, eqT, eqF, jlt, jle, jeq, jlt0, jle0, jeq0, jge0, jgt0, jinB, jnat, clt, cle, ceq, cgt, cge, lI_add, lI_sub, lI_mul, jadd, jsub, jmul, jneg, jtol, b010, b011, pv_2t, Int.toNat_natCast, Option.some.injEq, exists_eq_left', if_true, if_false]
      exact p15 c
    · refine vs_ok 3 ?_
      rw [show ((gRes 50).drop 15).take 3 = [.iload 2, .iconst 100, .if_icmp .lt 20] from rfl]
      simp (disch := omega) only [vs_iconst, vs_if_icmp, vs_iload2, vs_nil, gv_0, gv_1, gv_2, gv_3, pv_0, pv_1, va_rf_s, Nat.reduceDiv, Nat.reduceMod, Nat.reduceAdd, Nat.reduceMul, Int.reduceToNat, true_and, and_true, and_self, cP_eq, cP_ne, cP_lt, cP_ge, cP_gt, cP_le, eL_i, eL_l, eL_r, eL_n, Option.toList_none, Option.toList_some, List.nil_append, List.cons_append, kkI, llI, nnI, rrI, jjI, kkJ, llJ, nnJ, rrJ, iiJ, zIIs, zJJs, nEF, nET, and_false, false_and, jmin, jmax, catS_n, catS_i, catS_r, catS_l, Nat.reduceLeDiff, j1eq1, n21, jt0, jt1, Bool.false_eq_true, Classical.not_not, true_or, or_true, false_or, or_false, true_imp_iff, false_imp_iff, not_true_eq_false, not_false_eq_true, jif0, jif1, jifb, ltT, ltF, leT, leF, eqT, eqF, jlt, jle, jeq, jlt0, jle0, jeq0, jge0, jgt0, jinB, jnat, clt, cle, ceq, cgt, cge, lI_add, lI_sub, lI_mul, jadd, jsub, jmul, jneg, jtol, b010, b011, pv_2t, Int.toNat_natCast, Option.some.injEq, exists_eq_left', if_true, if_false]
      refine vs_ok 2 ?_
      rw [show ((gRes 50).drop 18).take 2 = [.iconst (-1), .ireturn] from rfl]
      simp (disch := omega) only [vs_iconst, vs_ireturn, vs_nil, gv_0, gv_1, gv_2, gv_3, pv_0, pv_1, va_rf_s, Nat.reduceDiv, Nat.reduceMod, Nat.reduceAdd, Nat.reduceMul, Int.reduceToNat, true_and, and_true, and_self, cP_eq, cP_ne, cP_lt, cP_ge, cP_gt, cP_le, eL_i, eL_l, eL_r, eL_n, Option.toList_none, Option.toList_some, List.nil_append, List.cons_append, kkI, llI, nnI, rrI, jjI, kkJ, llJ, nnJ, rrJ, iiJ, zIIs, zJJs, nEF, nET, and_false, false_and, jmin, jmax, catS_n, catS_i, catS_r, catS_l, Nat.reduceLeDiff, j1eq1, n21, jt0, jt1, Bool.false_eq_true, Classical.not_not, true_or, or_true, false_or, or_false, true_imp_iff, false_imp_iff, not_true_eq_false, not_false_eq_true, jif0, jif1, jifb, ltT, ltF, leT, leF, eqT, eqF, jlt, jle, jeq, jlt0, jle0, jeq0, jge0, jgt0, jinB, jnat, clt, cle, ceq, cgt, cge, lI_add, lI_sub, lI_mul, jadd, jsub, jmul, jneg, jtol, b010, b011, pv_2t, Int.toNat_natCast, Option.some.injEq, exists_eq_left', if_true, if_false, show gRc 50 = 1 from rfl]
      exact hq0 (by omega)
  have ls : ∀ (k : Nat), k ≤ kp → atF st v k = A → PW d 50 3 [some (.ref x), some (.int (iI v)), some (.int (iI k)), none, none] [] h Q := by
    intro k
    induction k with
    | zero =>
      intro hk0 hE
      have e : 0 = A := hE
      subst e
      refine vs_ok 2 ?_
      rw [show ((gRes 50).drop 3).take 2 = [.iload 2, .ifCond .le 15] from rfl]
      simp (disch := omega) only [vs_ifCond, vs_iload2, vs_nil, gv_0, gv_1, gv_2, gv_3, pv_0, pv_1, va_rf_s, Nat.reduceDiv, Nat.reduceMod, Nat.reduceAdd, Nat.reduceMul, Int.reduceToNat, true_and, and_true, and_self, cP_eq, cP_ne, cP_lt, cP_ge, cP_gt, cP_le, eL_i, eL_l, eL_r, eL_n, Option.toList_none, Option.toList_some, List.nil_append, List.cons_append, kkI, llI, nnI, rrI, jjI, kkJ, llJ, nnJ, rrJ, iiJ, zIIs, zJJs, nEF, nET, and_false, false_and, jmin, jmax, catS_n, catS_i, catS_r, catS_l, Nat.reduceLeDiff, j1eq1, n21, jt0, jt1, Bool.false_eq_true, Classical.not_not, true_or, or_true, false_or, or_false, true_imp_iff, false_imp_iff, not_true_eq_false, not_false_eq_true, jif0, jif1, jifb, ltT, ltF, leT, leF, eqT, eqF, jlt, jle, jeq, jlt0, jle0, jeq0, jge0, jgt0, jinB, jnat, clt, cle, ceq, cgt, cge, lI_add, lI_sub, lI_mul, jadd, jsub, jmul, jneg, jtol, b010, b011, pv_2t, Int.toNat_natCast, Option.some.injEq, exists_eq_left', if_true, if_false]
      exact done
    | succ k ih =>
      intro hk0 hE
      have ef : atF st v (k + 1) = if v < st k then atF st v k else k + 1 := rfl
      rw [ef] at hE
      have s1 := (hst k (by omega)).1
      have m1 : ((k + 1 : Nat) : Int) - 1 = ((k : Nat) : Int) := by omega
      have m2 : ((k + 1 : Nat) : Int) + (-1) = ((k : Nat) : Int) := by omega
      by_cases c : v < st k
      · rw [if_pos c] at hE
        refine vs_ok 12 ?_
        rw [show ((gRes 50).drop 3).take 12 = [.iload 2, .ifCond .le 15, .aload 0, .getfield 4012, .iload 2, .iconst 1, .isub, .iaload, .iload 1, .if_icmp .le 15, .iinc 2 (-1), .goto 3] from rfl]
        simp (disch := omega) only [vs_isub, vs_iconst, vs_goto, vs_if_icmp, vs_ifCond, vs_getfield, vs_iaload, vs_aload0, vs_iload1, vs_iload2, vs_iinc2n, vs_iinc2i, vs_iinc2r, vs_iinc2l, vs_nil, gv_0, gv_1, gv_2, gv_3, pv_0, pv_1, va_rf_s, Nat.reduceDiv, Nat.reduceMod, Nat.reduceAdd, Nat.reduceMul, Int.reduceToNat, true_and, and_true, and_self, cP_eq, cP_ne, cP_lt, cP_ge, cP_gt, cP_le, eL_i, eL_l, eL_r, eL_n, Option.toList_none, Option.toList_some, List.nil_append, List.cons_append, kkI, llI, nnI, rrI, jjI, kkJ, llJ, nnJ, rrJ, iiJ, zIIs, zJJs, nEF, nET, and_false, false_and, jmin, jmax, catS_n, catS_i, catS_r, catS_l, Nat.reduceLeDiff, j1eq1, n21, jt0, jt1, Bool.false_eq_true, Classical.not_not, true_or, or_true, false_or, or_false, true_imp_iff, false_imp_iff, not_true_eq_false, not_false_eq_true, jif0, jif1, jifb, ltT, ltF, leT, leF, eqT, eqF, jlt, jle, jeq, jlt0, jle0, jeq0, jge0, jgt0, jinB, jnat, clt, cle, ceq, cgt, cge, lI_add, lI_sub, lI_mul, jadd, jsub, jmul, jneg, jtol, b010, b011, pv_2t, Int.toNat_natCast, Option.some.injEq, exists_eq_left', if_true, if_false, N, m1, m2, (hst k (by omega)).2]
        exact ih (by omega) hE
      · rw [if_neg c] at hE
        subst hE
        refine vs_ok 12 ?_
        rw [show ((gRes 50).drop 3).take 12 = [.iload 2, .ifCond .le 15, .aload 0, .getfield 4012, .iload 2, .iconst 1, .isub, .iaload, .iload 1, .if_icmp .le 15, .iinc 2 (-1), .goto 3] from rfl]
        simp (disch := omega) only [vs_isub, vs_iconst, vs_goto, vs_if_icmp, vs_ifCond, vs_getfield, vs_iaload, vs_aload0, vs_iload1, vs_iload2, vs_iinc2n, vs_iinc2i, vs_iinc2r, vs_iinc2l, vs_nil, gv_0, gv_1, gv_2, gv_3, pv_0, pv_1, va_rf_s, Nat.reduceDiv, Nat.reduceMod, Nat.reduceAdd, Nat.reduceMul, Int.reduceToNat, true_and, and_true, and_self, cP_eq, cP_ne, cP_lt, cP_ge, cP_gt, cP_le, eL_i, eL_l, eL_r, eL_n, Option.toList_none, Option.toList_some, List.nil_append, List.cons_append, kkI, llI, nnI, rrI, jjI, kkJ, llJ, nnJ, rrJ, iiJ, zIIs, zJJs, nEF, nET, and_false, false_and, jmin, jmax, catS_n, catS_i, catS_r, catS_l, Nat.reduceLeDiff, j1eq1, n21, jt0, jt1, Bool.false_eq_true, Classical.not_not, true_or, or_true, false_or, or_false, true_imp_iff, false_imp_iff, not_true_eq_false, not_false_eq_true, jif0, jif1, jifb, ltT, ltF, leT, leF, eqT, eqF, jlt, jle, jeq, jlt0, jle0, jeq0, jge0, jgt0, jinB, jnat, clt, cle, ceq, cgt, cge, lI_add, lI_sub, lI_mul, jadd, jsub, jmul, jneg, jtol, b010, b011, pv_2t, Int.toNat_natCast, Option.some.injEq, exists_eq_left', if_true, if_false, N, m1, m2, (hst k (by omega)).2]
        exact done
  refine vs_ok 3 ?_
  rw [show ((gRes 50).drop 0).take 3 = [.aload 0, .getfield 4030, .istore 2] from rfl]
  simp (disch := omega) only [vs_getfield, vs_aload0, vs_istore2n, vs_istore2i, vs_istore2r, vs_istore2l, vs_nil, gv_0, gv_1, gv_2, gv_3, pv_0, pv_1, va_rf_s, Nat.reduceDiv, Nat.reduceMod, Nat.reduceAdd, Nat.reduceMul, Int.reduceToNat, true_and, and_true, and_self, cP_eq, cP_ne, cP_lt, cP_ge, cP_gt, cP_le, eL_i, eL_l, eL_r, eL_n, Option.toList_none, Option.toList_some, List.nil_append, List.cons_append, kkI, llI, nnI, rrI, jjI, kkJ, llJ, nnJ, rrJ, iiJ, zIIs, zJJs, nEF, nET, and_false, false_and, jmin, jmax, catS_n, catS_i, catS_r, catS_l, Nat.reduceLeDiff, j1eq1, n21, jt0, jt1, Bool.false_eq_true, Classical.not_not, true_or, or_true, false_or, or_false, true_imp_iff, false_imp_iff, not_true_eq_false, not_false_eq_true, jif0, jif1, jifb, ltT, ltF, leT, leF, eqT, eqF, jlt, jle, jeq, jlt0, jle0, jeq0, jge0, jgt0, jinB, jnat, clt, cle, ceq, cgt, cge, lI_add, lI_sub, lI_mul, jadd, jsub, jmul, jneg, jtol, b010, b011, pv_2t, Int.toNat_natCast, Option.some.injEq, exists_eq_left', if_true, if_false, N, h3]
  exact ls kp (Nat.le_refl _) hA
