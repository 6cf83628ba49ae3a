/-! Net: closed, leastTop -/
def clI (bt : Nat → Nat) (nm : Nat) : Nat → Nat → Nat → Nat
  | 0, _, s => s
  | k + 1, a, s => clI bt nm k (a + 1) (if s.testBit a = true then s ||| ((2 ^ nm - 1) &&& (4095 ^^^ bt a)) else s)
def clO (bt : Nat → Nat) (nm : Nat) : Nat → Nat → Nat
  | 0, s => s
  | r + 1, s => clO bt nm r (clI bt nm nm 0 s)
theorem clI_lt {bt : Nat → Nat} {nm : Nat} (hn : nm ≤ 12) : ∀ (k a s : Nat), s < 4096 → clI bt nm k a s < 4096
  | 0, _, _, h => h
  | k + 1, a, s, h => by
    refine clI_lt hn k (a + 1) _ ?_
    split
    · refine or_lt h (and_lt ?_)
      have := Nat.pow_le_pow_right (n := 2) (by omega) hn
      have : 0 < 2 ^ nm := Nat.two_pow_pos nm
      omega
    · exact h
theorem clO_lt {bt : Nat → Nat} {nm : Nat} (hn : nm ≤ 12) : ∀ (r s : Nat), s < 4096 → clO bt nm r s < 4096
  | 0, _, h => h
  | r + 1, s, h => clO_lt hn r _ (clI_lt hn nm 0 s h)
theorem pw_b {nm : Nat} (h : nm ≤ 12) : 1 ≤ 2 ^ nm ∧ 2 ^ nm ≤ 4096 := ⟨Nat.two_pow_pos nm, Nat.pow_le_pow_right (n := 2) (by omega) h⟩
theorem t_closed {d : Nat} {h : Hp} {x nm s : Nat} {bt : Nat → Nat} {Q : Nat → Option Value → Hp → Prop} (hn : netC h x nm bt) (hs : s < nm) (hq : Q 0 (some (.int (iI (clO bt nm nm (2 ^ s) : Nat)))) h) : PR d m_Net_closed [.ref x, .int (iI s)] h Q := by
  obtain ⟨ho, hnm, h4, hb4⟩ := id hn
  have pb := pw_b hnm
  have ps := p2_12 (k := s) (by omega)
  show PW d 45 0 [some (.ref x), some (.int (iI s)), none, none, none, none] [] h Q
  have e1 : ((2 ^ nm : Nat) : Int) - 1 = ((2 ^ nm - 1 : Nat) : Int) := by omega
  have li : ∀ (r k a e : Nat), k + a = nm → e < 4096 → (∀ o, PW d 45 43 [some (.ref x), some (.int (iI s)), some (.int (iI (2 ^ nm - 1 : Nat))), some (.int (iI (clI bt nm k a e : Nat))), some (.int (iI r)), o] [] h Q) → PW d 45 19 [some (.ref x), some (.int (iI s)), some (.int (iI (2 ^ nm - 1 : Nat))), some (.int (iI e)), some (.int (iI r)), some (.int (iI a))] [] h Q := by
    intro r k
    induction k with
    | zero =>
      intro a e hk he K
      refine vs_ok 4 ?_
      rw [show ((gRes 45).drop 19).take 4 = [.iload 5, .aload 0, .getfield 3040, .if_icmp .ge 43] from rfl]
      simp (disch := omega) only [vs_if_icmp, vs_getfield, vs_aload0, vs_iload5, vs_nil, gv_0, gv_1, gv_2, gv_3, pv_0, pv_1, va_rf_s, Nat.reduceDiv, Nat.reduceMod, Nat.reduceAdd, Nat.reduceMul, Int.reduceToNat, true_and, and_true, and_self, cP_eq, cP_ne, cP_lt, cP_ge, cP_gt, cP_le, eL_i, eL_l, eL_r, eL_n, Option.toList_none, Option.toList_some, List.nil_append, List.cons_append, kkI, llI, nnI, rrI, jjI, kkJ, llJ, nnJ, rrJ, iiJ, zIIs, zJJs, nEF, nET, and_false, false_and, jmin, jmax, catS_n, catS_i, catS_r, catS_l, Nat.reduceLeDiff, j1eq1, n21, jt0, jt1, Bool.false_eq_true, Classical.not_not, true_or, or_true, false_or, or_false, true_imp_iff, false_imp_iff, not_true_eq_false, not_false_eq_true, jif0, jif1, jifb, ltT, ltF, leT, leF, eqT, eqF, jlt, jle, jeq, jlt0, jle0, jeq0, jge0, jgt0, jinB, jnat, clt, cle, ceq, cgt, cge, lI_add, lI_sub, lI_mul, jadd, jsub, jmul, jneg, jtol, b010, b011, pv_2t, Int.toNat_natCast, Option.some.injEq, exists_eq_left', if_true, if_false, nF ho, h4]
      exact K _
    | succ k ih =>
      intro a e hk he K
      have ef : clI bt nm (k + 1) a e = clI bt nm k (a + 1) (if e.testBit a = true then e ||| ((2 ^ nm - 1) &&& (4095 ^^^ bt a)) else e) := rfl
      rw [ef] at K
      have ba := (hb4 a (by omega)).1
      by_cases c : e.testBit a = true
      · rw [if_pos c] at K
        refine vs_ok 11 ?_
        rw [show ((gRes 45).drop 19).take 11 = [.iload 5, .aload 0, .getfield 3040, .if_icmp .ge 43, .iload 3, .iload 5, .ishr, .iconst 1, .iand, .iconst 1, .if_icmp .ne 41] from rfl]
        simp (disch := omega) only [vs_iconst, vs_if_icmp, vs_getfield, vs_aload0, vs_iload3, vs_iload5, vs_nil, gv_0, gv_1, gv_2, gv_3, pv_0, pv_1, va_rf_s, vs_iand, vs_ishr, Nat.reduceDiv, Nat.reduceMod, Nat.reduceAdd, Nat.reduceMul, Int.reduceToNat, true_and, and_true, and_self, cP_eq, cP_ne, cP_lt, cP_ge, cP_gt, cP_le, eL_i, eL_l, eL_r, eL_n, Option.toList_none, Option.toList_some, List.nil_append, List.cons_append, kkI, llI, nnI, rrI, jjI, kkJ, llJ, nnJ, rrJ, iiJ, zIIs, zJJs, nEF, nET, and_false, false_and, jmin, jmax, catS_n, catS_i, catS_r, catS_l, Nat.reduceLeDiff, j1eq1, n21, jt0, jt1, Bool.false_eq_true, Classical.not_not, true_or, or_true, false_or, or_false, true_imp_iff, false_imp_iff, not_true_eq_false, not_false_eq_true, jif0, jif1, jifb, ltT, ltF, leT, leF, eqT, eqF, jlt, jle, jeq, jlt0, jle0, jeq0, jge0, jgt0, jinB, jnat, clt, cle, ceq, cgt, cge, lI_add, lI_sub, lI_mul, jadd, jsub, jmul, jneg, jtol, b010, b011, pv_2t, Int.toNat_natCast, Option.some.injEq, exists_eq_left', if_true, if_false, nF ho, h4, jbit, c]
        refine vs_ok 11 ?_
        rw [show ((gRes 45).drop 30).take 11 = [.iload 3, .iload 2, .aload 0, .getfield 3002, .iload 5, .iaload, .iconst (-1), .ixor, .iand, .ior, .istore 3] from rfl]
        simp (disch := omega) only [vs_iconst, vs_getfield, vs_iaload, vs_aload0, vs_iload2, vs_iload3, vs_istore3n, vs_istore3i, vs_istore3r, vs_istore3l, vs_iload5, vs_nil, gv_0, gv_1, gv_2, gv_3, pv_0, pv_1, va_rf_s, vs_iand, vs_ior, vs_ixor, Nat.reduceDiv, Nat.reduceMod, Nat.reduceAdd, Nat.reduceMul, Int.reduceToNat, true_and, and_true, and_self, cP_eq, cP_ne, cP_lt, cP_ge, cP_gt, cP_le, eL_i, eL_l, eL_r, eL_n, Option.toList_none, Option.toList_some, List.nil_append, List.cons_append, kkI, llI, nnI, rrI, jjI, kkJ, llJ, nnJ, rrJ, iiJ, zIIs, zJJs, nEF, nET, and_false, false_and, jmin, jmax, catS_n, catS_i, catS_r, catS_l, Nat.reduceLeDiff, j1eq1, n21, jt0, jt1, Bool.false_eq_true, Classical.not_not, true_or, or_true, false_or, or_false, true_imp_iff, false_imp_iff, not_true_eq_false, not_false_eq_true, jif0, jif1, jifb, ltT, ltF, leT, leF, eqT, eqF, jlt, jle, jeq, jlt0, jle0, jeq0, jge0, jgt0, jinB, jnat, clt, cle, ceq, cgt, cge, lI_add, lI_sub, lI_mul, jadd, jsub, jmul, jneg, jtol, b010, b011, pv_2t, Int.toNat_natCast, Option.some.injEq, exists_eq_left', if_true, if_false, nF ho, (hb4 a (by omega)).2, jandn, jor]
        refine vs_ok 2 ?_
        rw [show ((gRes 45).drop 41).take 2 = [.iinc 5 1, .goto 19] from rfl]
        simp (disch := omega) only [vs_goto, vs_iinc5n, vs_iinc5i, vs_iinc5r, vs_iinc5l, vs_nil, gv_0, gv_1, gv_2, gv_3, pv_0, pv_1, va_rf_s, Nat.reduceDiv, Nat.reduceMod, Nat.reduceAdd, Nat.reduceMul, Int.reduceToNat, true_and, and_true, and_self, cP_eq, cP_ne, cP_lt, cP_ge, cP_gt, cP_le, eL_i, eL_l, eL_r, eL_n, Option.toList_none, Option.toList_some, List.nil_append, List.cons_append, kkI, llI, nnI, rrI, jjI, kkJ, llJ, nnJ, rrJ, iiJ, zIIs, zJJs, nEF, nET, and_false, false_and, jmin, jmax, catS_n, catS_i, catS_r, catS_l, Nat.reduceLeDiff, j1eq1, n21, jt0, jt1, Bool.false_eq_true, Classical.not_not, true_or, or_true, false_or, or_false, true_imp_iff, false_imp_iff, not_true_eq_false, not_false_eq_true, jif0, jif1, jifb, ltT, ltF, leT, leF, eqT, eqF, jlt, jle, jeq, jlt0, jle0, jeq0, jge0, jgt0, jinB, jnat, clt, cle, ceq, cgt, cge, lI_add, lI_sub, lI_mul, jadd, jsub, jmul, jneg, jtol, b010, b011, pv_2t, Int.toNat_natCast, Option.some.injEq, exists_eq_left', if_true, if_false]
        exact ih (a + 1) _ (by omega) (or_lt he (and_lt (by omega))) K
      · rw [if_neg c] at K
        refine vs_ok 11 ?_
        rw [show ((gRes 45).drop 19).take 11 = [.iload 5, .aload 0, .getfield 3040, .if_icmp .ge 43, .iload 3, .iload 5, .ishr, .iconst 1, .iand, .iconst 1, .if_icmp .ne 41] from rfl]
        simp (disch := omega) only [vs_iconst, vs_if_icmp, vs_getfield, vs_aload0, vs_iload3, vs_iload5, vs_nil, gv_0, gv_1, gv_2, gv_3, pv_0, pv_1, va_rf_s, vs_iand, vs_ishr, Nat.reduceDiv, Nat.reduceMod, Nat.reduceAdd, Nat.reduceMul, Int.reduceToNat, true_and, and_true, and_self, cP_eq, cP_ne, cP_lt, cP_ge, cP_gt, cP_le, eL_i, eL_l, eL_r, eL_n, Option.toList_none, Option.toList_some, List.nil_append, List.cons_append, kkI, llI, nnI, rrI, jjI, kkJ, llJ, nnJ, rrJ, iiJ, zIIs, zJJs, nEF, nET, and_false, false_and, jmin, jmax, catS_n, catS_i, catS_r, catS_l, Nat.reduceLeDiff, j1eq1, n21, jt0, jt1, Bool.false_eq_true, Classical.not_not, true_or, or_true, false_or, or_false, true_imp_iff, false_imp_iff, not_true_eq_false, not_false_eq_true, jif0, jif1, jifb, ltT, ltF, leT, leF, eqT, eqF, jlt, jle, jeq, jlt0, jle0, jeq0, jge0, jgt0, jinB, jnat, clt, cle, ceq, cgt, cge, lI_add, lI_sub, lI_mul, jadd, jsub, jmul, jneg, jtol, b010, b011, pv_2t, Int.toNat_natCast, Option.some.injEq, exists_eq_left', if_true, if_false, nF ho, h4, jbit, c]
        refine vs_ok 2 ?_
        rw [show ((gRes 45).drop 41).take 2 = [.iinc 5 1, .goto 19] from rfl]
        simp (disch := omega) only [vs_goto, vs_iinc5n, vs_iinc5i, vs_iinc5r, vs_iinc5l, vs_nil, gv_0, gv_1, gv_2, gv_3, pv_0, pv_1, va_rf_s, Nat.reduceDiv, Nat.reduceMod, Nat.reduceAdd, Nat.reduceMul, Int.reduceToNat, true_and, and_true, and_self, cP_eq, cP_ne, cP_lt, cP_ge, cP_gt, cP_le, eL_i, eL_l, eL_r, eL_n, Option.toList_none, Option.toList_some, List.nil_append, List.cons_append, kkI, llI, nnI, rrI, jjI, kkJ, llJ, nnJ, rrJ, iiJ, zIIs, zJJs, nEF, nET, and_false, false_and, jmin, jmax, catS_n, catS_i, catS_r, catS_l, Nat.reduceLeDiff, j1eq1, n21, jt0, jt1, Bool.false_eq_true, Classical.not_not, true_or, or_true, false_or, or_false, true_imp_iff, false_imp_iff, not_true_eq_false, not_false_eq_true, jif0, jif1, jifb, ltT, ltF, leT, leF, eqT, eqF, jlt, jle, jeq, jlt0, jle0, jeq0, jge0, jgt0, jinB, jnat, clt, cle, ceq, cgt, cge, lI_add, lI_sub, lI_mul, jadd, jsub, jmul, jneg, jtol, b010, b011, pv_2t, Int.toNat_natCast, Option.some.injEq, exists_eq_left', if_true, if_false]
        exact ih (a + 1) _ (by omega) he K
  have lo : ∀ (k r e : Nat) (o5 : Option Value), k + r = nm → e < 4096 → clO bt nm k e = clO bt nm nm (2 ^ s) → PW d 45 13 [some (.ref x), some (.int (iI s)), some (.int (iI (2 ^ nm - 1 : Nat))), some (.int (iI e)), some (.int (iI r)), o5] [] h Q := by
    intro k
    induction k with
    | zero =>
      intro r e o5 hk he hf
      rw [← hf] at hq
      refine vs_ok 4 ?_
      rw [show ((gRes 45).drop 13).take 4 = [.iload 4, .aload 0, .getfield 3040, .if_icmp .ge 45] from rfl]
      simp (disch := omega) only [vs_if_icmp, vs_getfield, vs_aload0, vs_iload4, vs_nil, gv_0, gv_1, gv_2, gv_3, pv_0, pv_1, va_rf_s, Nat.reduceDiv, Nat.reduceMod, Nat.reduceAdd, Nat.reduceMul, Int.reduceToNat, true_and, and_true, and_self, cP_eq, cP_ne, cP_lt, cP_ge, cP_gt, cP_le, eL_i, eL_l, eL_r, eL_n, Option.toList_none, Option.toList_some, List.nil_append, List.cons_append, kkI, llI, nnI, rrI, jjI, kkJ, llJ, nnJ, rrJ, iiJ, zIIs, zJJs, nEF, nET, and_false, false_and, jmin, jmax, catS_n, catS_i, catS_r, catS_l, Nat.reduceLeDiff, j1eq1, n21, jt0, jt1, Bool.false_eq_true, Classical.not_not, true_or, or_true, false_or, or_false, true_imp_iff, false_imp_iff, not_true_eq_false, not_false_eq_true, jif0, jif1, jifb, ltT, ltF, leT, leF, eqT, eqF, jlt, jle, jeq, jlt0, jle0, jeq0, jge0, jgt0, jinB, jnat, clt, cle, ceq, cgt, cge, lI_add, lI_sub, lI_mul, jadd, jsub, jmul, jneg, jtol, b010, b011, pv_2t, Int.toNat_natCast, Option.some.injEq, exists_eq_left', if_true, if_false, nF ho, h4]
      refine vs_ok 2 ?_
      rw [show ((gRes 45).drop 45).take 2 = [.iload 3, .ireturn] from rfl]
      simp (disch := omega) only [vs_ireturn, vs_iload3, vs_nil, gv_0, gv_1, gv_2, gv_3, pv_0, pv_1, va_rf_s, Nat.reduceDiv, Nat.reduceMod, Nat.reduceAdd, Nat.reduceMul, Int.reduceToNat, true_and, and_true, and_self, cP_eq, cP_ne, cP_lt, cP_ge, cP_gt, cP_le, eL_i, eL_l, eL_r, eL_n, Option.toList_none, Option.toList_some, List.nil_append, List.cons_append, kkI, llI, nnI, rrI, jjI, kkJ, llJ, nnJ, rrJ, iiJ, zIIs, zJJs, nEF, nET, and_false, false_and, jmin, jmax, catS_n, catS_i, catS_r, catS_l, Nat.reduceLeDiff, j1eq1, n21, jt0, jt1, Bool.false_eq_true, Classical.not_not, true_or, or_true, false_or, or_false, true_imp_iff, false_imp_iff, not_true_eq_false, not_false_eq_true, jif0, jif1, jifb, ltT, ltF, leT, leF, eqT, eqF, jlt, jle, jeq, jlt0, jle0, jeq0, jge0, jgt0, jinB, jnat, clt, cle, ceq, cgt, cge, lI_add, lI_sub, lI_mul, jadd, jsub, jmul, jneg, jtol, b010, b011, pv_2t, Int.toNat_natCast, Option.some.injEq, exists_eq_left', if_true, if_false, show gRc 45 = 1 from rfl]
      exact hq
    | succ k ih =>
      intro r e o5 hk he hf
      refine vs_ok 4 ?_
      rw [show ((gRes 45).drop 13).take 4 = [.iload 4, .aload 0, .getfield 3040, .if_icmp .ge 45] from rfl]
      simp (disch := omega) only [vs_if_icmp, vs_getfield, vs_aload0, vs_iload4, vs_nil, gv_0, gv_1, gv_2, gv_3, pv_0, pv_1, va_rf_s, Nat.reduceDiv, Nat.reduceMod, Nat.reduceAdd, Nat.reduceMul, Int.reduceToNat, true_and, and_true, and_self, cP_eq, cP_ne, cP_lt, cP_ge, cP_gt, cP_le, eL_i, eL_l, eL_r, eL_n, Option.toList_none, Option.toList_some, List.nil_append, List.cons_append, kkI, llI, nnI, rrI, jjI, kkJ, llJ, nnJ, rrJ, iiJ, zIIs, zJJs, nEF, nET, and_false, false_and, jmin, jmax, catS_n, catS_i, catS_r, catS_l, Nat.reduceLeDiff, j1eq1, n21, jt0, jt1, Bool.false_eq_true, Classical.not_not, true_or, or_true, false_or, or_false, true_imp_iff, false_imp_iff, not_true_eq_false, not_false_eq_true, jif0, jif1, jifb, ltT, ltF, leT, leF, eqT, eqF, jlt, jle, jeq, jlt0, jle0, jeq0, jge0, jgt0, jinB, jnat, clt, cle, ceq, cgt, cge, lI_add, lI_sub, lI_mul, jadd, jsub, jmul, jneg, jtol, b010, b011, pv_2t, Int.toNat_natCast, Option.some.injEq, exists_eq_left', if_true, if_false, nF ho, h4]
      refine vs_ok 2 ?_
      rw [show ((gRes 45).drop 17).take 2 = [.iconst 0, .istore 5] from rfl]
      simp (disch := omega) only [vs_iconst, vs_istore5n, vs_istore5i, vs_istore5r, vs_istore5l, vs_nil, gv_0, gv_1, gv_2, gv_3, pv_0, pv_1, va_rf_s, Nat.reduceDiv, Nat.reduceMod, Nat.reduceAdd, Nat.reduceMul, Int.reduceToNat, true_and, and_true, and_self, cP_eq, cP_ne, cP_lt, cP_ge, cP_gt, cP_le, eL_i, eL_l, eL_r, eL_n, Option.toList_none, Option.toList_some, List.nil_append, List.cons_append, kkI, llI, nnI, rrI, jjI, kkJ, llJ, nnJ, rrJ, iiJ, zIIs, zJJs, nEF, nET, and_false, false_and, jmin, jmax, catS_n, catS_i, catS_r, catS_l, Nat.reduceLeDiff, j1eq1, n21, jt0, jt1, Bool.false_eq_true, Classical.not_not, true_or, or_true, false_or, or_false, true_imp_iff, false_imp_iff, not_true_eq_false, not_false_eq_true, jif0, jif1, jifb, ltT, ltF, leT, leF, eqT, eqF, jlt, jle, jeq, jlt0, jle0, jeq0, jge0, jgt0, jinB, jnat, clt, cle, ceq, cgt, cge, lI_add, lI_sub, lI_mul, jadd, jsub, jmul, jneg, jtol, b010, b011, pv_2t, Int.toNat_natCast, Option.some.injEq, exists_eq_left', if_true, if_false]
      refine li r nm 0 e (by omega) he fun o => ?_
      refine vs_ok 2 ?_
      rw [show ((gRes 45).drop 43).take 2 = [.iinc 4 1, .goto 13] from rfl]
      simp (disch := omega) only [vs_goto, vs_iinc4n, vs_iinc4i, vs_iinc4r, vs_iinc4l, vs_nil, gv_0, gv_1, gv_2, gv_3, pv_0, pv_1, va_rf_s, Nat.reduceDiv, Nat.reduceMod, Nat.reduceAdd, Nat.reduceMul, Int.reduceToNat, true_and, and_true, and_self, cP_eq, cP_ne, cP_lt, cP_ge, cP_gt, cP_le, eL_i, eL_l, eL_r, eL_n, Option.toList_none, Option.toList_some, List.nil_append, List.cons_append, kkI, llI, nnI, rrI, jjI, kkJ, llJ, nnJ, rrJ, iiJ, zIIs, zJJs, nEF, nET, and_false, false_and, jmin, jmax, catS_n, catS_i, catS_r, catS_l, Nat.reduceLeDiff, j1eq1, n21, jt0, jt1, Bool.false_eq_true, Classical.not_not, true_or, or_true, false_or, or_false, true_imp_iff, false_imp_iff, not_true_eq_false, not_false_eq_true, jif0, jif1, jifb, ltT, ltF, leT, leF, eqT, eqF, jlt, jle, jeq, jlt0, jle0, jeq0, jge0, jgt0, jinB, jnat, clt, cle, ceq, cgt, cge, lI_add, lI_sub, lI_mul, jadd, jsub, jmul, jneg, jtol, b010, b011, pv_2t, Int.toNat_natCast, Option.some.injEq, exists_eq_left', if_true, if_false]
      exact ih (r + 1) _ o (by omega) (clI_lt hnm nm 0 e he) hf
  refine vs_ok 13 ?_
  rw [show ((gRes 45).drop 0).take 13 = [.iconst 1, .aload 0, .getfield 3040, .ishl, .iconst 1, .isub, .istore 2, .iconst 1, .iload 1, .ishl, .istore 3, .iconst 0, .istore 4] from rfl]
  simp (disch := omega) only [vs_isub, vs_iconst, vs_getfield, vs_aload0, vs_iload1, vs_istore2n, vs_istore2i, vs_istore2r, vs_istore2l, vs_istore3n, vs_istore3i, vs_istore3r, vs_istore3l, vs_istore4n, vs_istore4i, vs_istore4r, vs_istore4l, vs_nil, gv_0, gv_1, gv_2, gv_3, pv_0, pv_1, va_rf_s, vs_ishl, Nat.reduceDiv, Nat.reduceMod, Nat.reduceAdd, Nat.reduceMul, Int.reduceToNat, true_and, and_true, and_self, cP_eq, cP_ne, cP_lt, cP_ge, cP_gt, cP_le, eL_i, eL_l, eL_r, eL_n, Option.toList_none, Option.toList_some, List.nil_append, List.cons_append, kkI, llI, nnI, rrI, jjI, kkJ, llJ, nnJ, rrJ, iiJ, zIIs, zJJs, nEF, nET, and_false, false_and, jmin, jmax, catS_n, catS_i, catS_r, catS_l, Nat.reduceLeDiff, j1eq1, n21, jt0, jt1, Bool.false_eq_true, Classical.not_not, true_or, or_true, false_or, or_false, true_imp_iff, false_imp_iff, not_true_eq_false, not_false_eq_true, jif0, jif1, jifb, ltT, ltF, leT, leF, eqT, eqF, jlt, jle, jeq, jlt0, jle0, jeq0, jge0, jgt0, jinB, jnat, clt, cle, ceq, cgt, cge, lI_add, lI_sub, lI_mul, jadd, jsub, jmul, jneg, jtol, b010, b011, pv_2t, Int.toNat_natCast, Option.some.injEq, exists_eq_left', if_true, if_false, nF ho, h4, jshl1, e1]
  exact lo nm 0 _ none (by omega) ps rfl
def tpF (bt : Nat → Nat) (nm : Nat) : Nat → Nat → Nat → Nat
  | 0, _, b => b
  | k + 1, s, b => tpF bt nm k (s + 1) (if b = 0 ∨ pcN (clO bt nm nm (2 ^ s)) 12 < pcN b 12 then clO bt nm nm (2 ^ s) else b)
theorem pcN_le (n : Nat) : ∀ k, pcN n k ≤ k
  | 0 => Nat.le_refl 0
  | k + 1 => by
    have := pcN_le n k
    show pcN n k + (n >>> k) % 2 ≤ k + 1
    omega
theorem t_leastTop {d : Nat} {h : Hp} {x nm : Nat} {bt : Nat → Nat} {Q : Nat → Option Value → Hp → Prop} (hn : netC h x nm bt) (hq : Q 0 (some (.int (iI (tpF bt nm nm 0 0 : Nat)))) h) : PR (d + 1) m_Net_leastTop [.ref x] h Q := by
  obtain ⟨ho, hnm, h4, hb4⟩ := id hn
  show PW (d + 1) 44 0 [some (.ref x), none, none, none] [] h Q
  have lp : ∀ (k s b : Nat) (o3 : Option Value), k + s = nm → b < 4096 → tpF bt nm k s b = tpF bt nm nm 0 0 → PW (d + 1) 44 4 [some (.ref x), some (.int (iI b)), some (.int (iI s)), o3] [] h Q := by
    intro k
    induction k with
    | zero =>
      intro s b o3 hk hb hf
      rw [← hf] at hq
      refine vs_ok 4 ?_
      rw [show ((gRes 44).drop 4).take 4 = [.iload 2, .aload 0, .getfield 3040, .if_icmp .ge 23] from rfl]
      simp (disch := omega) only [vs_if_icmp, vs_getfield, vs_aload0, vs_iload2, vs_nil, gv_0, gv_1, gv_2, gv_3, pv_0, pv_1, va_rf_s, Nat.reduceDiv, Nat.reduceMod, Nat.reduceAdd, Nat.reduceMul, Int.reduceToNat, true_and, and_true, and_self, cP_eq, cP_ne, cP_lt, cP_ge, cP_gt, cP_le, eL_i, eL_l, eL_r, eL_n, Option.toList_none, Option.toList_some, List.nil_append, List.cons_append, kkI, llI, nnI, rrI, jjI, kkJ, llJ, nnJ, rrJ, iiJ, zIIs, zJJs, nEF, nET, and_false, false_and, jmin, jmax, catS_n, catS_i, catS_r, catS_l, Nat.reduceLeDiff, j1eq1, n21, jt0, jt1, Bool.false_eq_true, Classical.not_not, true_or, or_true, false_or, or_false, true_imp_iff, false_imp_iff, not_true_eq_false, not_false_eq_true, jif0, jif1, jifb, ltT, ltF, leT, leF, eqT, eqF, jlt, jle, jeq, jlt0, jle0, jeq0, jge0, jgt0, jinB, jnat, clt, cle, ceq, cgt, cge, lI_add, lI_sub, lI_mul, jadd, jsub, jmul, jneg, jtol, b010, b011, pv_2t, Int.toNat_natCast, Option.some.injEq, exists_eq_left', if_true, if_false, nF ho, h4]
      refine vs_ok 2 ?_
      rw [show ((gRes 44).drop 23).take 2 = [.iload 1, .ireturn] from rfl]
      simp (disch := omega) only [vs_ireturn, vs_iload1, vs_nil, gv_0, gv_1, gv_2, gv_3, pv_0, pv_1, va_rf_s, Nat.reduceDiv, Nat.reduceMod, Nat.reduceAdd, Nat.reduceMul, Int.reduceToNat, true_and, and_true, and_self, cP_eq, cP_ne, cP_lt, cP_ge, cP_gt, cP_le, eL_i, eL_l, eL_r, eL_n, Option.toList_none, Option.toList_some, List.nil_append, List.cons_append, kkI, llI, nnI, rrI, jjI, kkJ, llJ, nnJ, rrJ, iiJ, zIIs, zJJs, nEF, nET, and_false, false_and, jmin, jmax, catS_n, catS_i, catS_r, catS_l, Nat.reduceLeDiff, j1eq1, n21, jt0, jt1, Bool.false_eq_true, Classical.not_not, true_or, or_true, false_or, or_false, true_imp_iff, false_imp_iff, not_true_eq_false, not_false_eq_true, jif0, jif1, jifb, ltT, ltF, leT, leF, eqT, eqF, jlt, jle, jeq, jlt0, jle0, jeq0, jge0, jgt0, jinB, jnat, clt, cle, ceq, cgt, cge, lI_add, lI_sub, lI_mul, jadd, jsub, jmul, jneg, jtol, b010, b011, pv_2t, Int.toNat_natCast, Option.some.injEq, exists_eq_left', if_true, if_false, show gRc 44 = 1 from rfl]
      exact hq
    | succ k ih =>
      intro s b o3 hk hb hf
      have ps := p2_12 (k := s) (by omega)
      have cb := clO_lt (bt := bt) hnm nm (2 ^ s) ps
      refine vs_ok 4 ?_
      rw [show ((gRes 44).drop 4).take 4 = [.iload 2, .aload 0, .getfield 3040, .if_icmp .ge 23] from rfl]
      simp (disch := omega) only [vs_if_icmp, vs_getfield, vs_aload0, vs_iload2, vs_nil, gv_0, gv_1, gv_2, gv_3, pv_0, pv_1, va_rf_s, Nat.reduceDiv, Nat.reduceMod, Nat.reduceAdd, Nat.reduceMul, Int.reduceToNat, true_and, and_true, and_self, cP_eq, cP_ne, cP_lt, cP_ge, cP_gt, cP_le, eL_i, eL_l, eL_r, eL_n, Option.toList_none, Option.toList_some, List.nil_append, List.cons_append, kkI, llI, nnI, rrI, jjI, kkJ, llJ, nnJ, rrJ, iiJ, zIIs, zJJs, nEF, nET, and_false, false_and, jmin, jmax, catS_n, catS_i, catS_r, catS_l, Nat.reduceLeDiff, j1eq1, n21, jt0, jt1, Bool.false_eq_true, Classical.not_not, true_or, or_true, false_or, or_false, true_imp_iff, false_imp_iff, not_true_eq_false, not_false_eq_true, jif0, jif1, jifb, ltT, ltF, leT, leF, eqT, eqF, jlt, jle, jeq, jlt0, jle0, jeq0, jge0, jgt0, jinB, jnat, clt, cle, ceq, cgt, cge, lI_add, lI_sub, lI_mul, jadd, jsub, jmul, jneg, jtol, b010, b011, pv_2t, Int.toNat_natCast, Option.some.injEq, exists_eq_left', if_true, if_false, nF ho, h4]
      refine vs_ok 2 ?_
      rw [show ((gRes 44).drop 8).take 2 = [.aload 0, .iload 2] from rfl]
      simp (disch := omega) only [vs_aload0, vs_iload2, vs_nil, gv_0, gv_1, gv_2, gv_3, pv_0, pv_1, va_rf_s, Nat.reduceDiv, Nat.reduceMod, Nat.reduceAdd, Nat.reduceMul, Int.reduceToNat, true_and, and_true, and_self, cP_eq, cP_ne, cP_lt, cP_ge, cP_gt, cP_le, eL_i, eL_l, eL_r, eL_n, Option.toList_none, Option.toList_some, List.nil_append, List.cons_append, kkI, llI, nnI, rrI, jjI, kkJ, llJ, nnJ, rrJ, iiJ, zIIs, zJJs, nEF, nET, and_false, false_and, jmin, jmax, catS_n, catS_i, catS_r, catS_l, Nat.reduceLeDiff, j1eq1, n21, jt0, jt1, Bool.false_eq_true, Classical.not_not, true_or, or_true, false_or, or_false, true_imp_iff, false_imp_iff, not_true_eq_false, not_false_eq_true, jif0, jif1, jifb, ltT, ltF, leT, leF, eqT, eqF, jlt, jle, jeq, jlt0, jle0, jeq0, jge0, jgt0, jinB, jnat, clt, cle, ceq, cgt, cge, lI_add, lI_sub, lI_mul, jadd, jsub, jmul, jneg, jtol, b010, b011, pv_2t, Int.toNat_natCast, Option.some.injEq, exists_eq_left', if_true, if_false]
      refine PW.iv rfl rfl rfl (nF ho).1.1 (nF ho).1.2 (le_b rfl) (le_b rfl) ?_
      refine t_closed hn (by omega) ⟨rfl, ⟨rfl, rfl⟩, ?_⟩
      have ef : tpF bt nm (k + 1) s b = tpF bt nm k (s + 1) (if b = 0 ∨ pcN (clO bt nm nm (2 ^ s)) 12 < pcN b 12 then clO bt nm nm (2 ^ s) else b) := rfl
      rw [ef] at hf
      generalize clO bt nm nm (2 ^ s) = c at cb hf
      have tk : (b = 0 ∨ pcN c 12 < pcN b 12) → PW (d + 1) 44 19 [some (.ref x), some (.int (iI b)), some (.int (iI s)), some (.int (iI c))] [] h Q := fun z => by
        rw [if_pos z] at hf
        refine vs_ok 4 ?_
        rw [show ((gRes 44).drop 19).take 4 = [.iload 3, .istore 1, .iinc 2 1, .goto 4] from rfl]
        simp (disch := omega) only [vs_goto, vs_istore1n, vs_istore1i, vs_istore1r, vs_istore1l, vs_iinc2n, vs_iinc2i, vs_iinc2r, vs_iinc2l, vs_iload3, vs_nil, gv_0, gv_1, gv_2, gv_3, pv_0, pv_1, va_rf_s, Nat.reduceDiv, Nat.reduceMod, Nat.reduceAdd, Nat.reduceMul, Int.reduceToNat, true_and, and_true, and_self, cP_eq, cP_ne, cP_lt, cP_ge, cP_gt, cP_le, eL_i, eL_l, eL_r, eL_n, Option.toList_none, Option.toList_some, List.nil_append, List.cons_append, kkI, llI, nnI, rrI, jjI, kkJ, llJ, nnJ, rrJ, iiJ, zIIs, zJJs, nEF, nET, and_false, false_and, jmin, jmax, catS_n, catS_i, catS_r, catS_l, Nat.reduceLeDiff, j1eq1, n21, jt0, jt1, Bool.false_eq_true, Classical.not_not, true_or, or_true, false_or, or_false, true_imp_iff, false_imp_iff, not_true_eq_false, not_false_eq_true, jif0, jif1, jifb, ltT, ltF, leT, leF, eqT, eqF, jlt, jle, jeq, jlt0, jle0, jeq0, jge0, jgt0, jinB, jnat, clt, cle, ceq, cgt, cge, lI_add, lI_sub, lI_mul, jadd, jsub, jmul, jneg, jtol, b010, b011, pv_2t, Int.toNat_natCast, Option.some.injEq, exists_eq_left', if_true, if_false]
        exact ih (s + 1) c _ (by omega) cb hf
      by_cases c0 : b = 0
      · refine vs_ok 3 ?_
        rw [show ((gRes 44).drop 11).take 3 = [.istore 3, .iload 1, .ifCond .eq 19] from rfl]
        simp (disch := omega) only [vs_ifCond, vs_iload1, vs_istore3n, vs_istore3i, vs_istore3r, vs_istore3l, vs_nil, gv_0, gv_1, gv_2, gv_3, pv_0, pv_1, va_rf_s, Nat.reduceDiv, Nat.reduceMod, Nat.reduceAdd, Nat.reduceMul, Int.reduceToNat, true_and, and_true, and_self, cP_eq, cP_ne, cP_lt, cP_ge, cP_gt, cP_le, eL_i, eL_l, eL_r, eL_n, Option.toList_none, Option.toList_some, List.nil_append, List.cons_append, kkI, llI, nnI, rrI, jjI, kkJ, llJ, nnJ, rrJ, iiJ, zIIs, zJJs, nEF, nET, and_false, false_and, jmin, jmax, catS_n, catS_i, catS_r, catS_l, Nat.reduceLeDiff, j1eq1, n21, jt0, jt1, Bool.false_eq_true, Classical.not_not, true_or, or_true, false_or, or_false, true_imp_iff, false_imp_iff, not_true_eq_false, not_false_eq_true, jif0, jif1, jifb, ltT, ltF, leT, leF, eqT, eqF, jlt, jle, jeq, jlt0, jle0, jeq0, jge0, jgt0, jinB, jnat, clt, cle, ceq, cgt, cge, lI_add, lI_sub, lI_mul, jadd, jsub, jmul, jneg, jtol, b010, b011, pv_2t, Int.toNat_natCast, Option.some.injEq, exists_eq_left', if_true, if_false]
        exact tk (Or.inl c0)
      · refine vs_ok 4 ?_
        rw [show ((gRes 44).drop 11).take 4 = [.istore 3, .iload 1, .ifCond .eq 19, .iload 3] from rfl]
        simp (disch := omega) only [vs_ifCond, vs_iload1, vs_iload3, vs_istore3n, vs_istore3i, vs_istore3r, vs_istore3l, vs_nil, gv_0, gv_1, gv_2, gv_3, pv_0, pv_1, va_rf_s, Nat.reduceDiv, Nat.reduceMod, Nat.reduceAdd, Nat.reduceMul, Int.reduceToNat, true_and, and_true, and_self, cP_eq, cP_ne, cP_lt, cP_ge, cP_gt, cP_le, eL_i, eL_l, eL_r, eL_n, Option.toList_none, Option.toList_some, List.nil_append, List.cons_append, kkI, llI, nnI, rrI, jjI, kkJ, llJ, nnJ, rrJ, iiJ, zIIs, zJJs, nEF, nET, and_false, false_and, jmin, jmax, catS_n, catS_i, catS_r, catS_l, Nat.reduceLeDiff, j1eq1, n21, jt0, jt1, Bool.false_eq_true, Classical.not_not, true_or, or_true, false_or, or_false, true_imp_iff, false_imp_iff, not_true_eq_false, not_false_eq_true, jif0, jif1, jifb, ltT, ltF, leT, leF, eqT, eqF, jlt, jle, jeq, jlt0, jle0, jeq0, jge0, jgt0, jinB, jnat, clt, cle, ceq, cgt, cge, lI_add, lI_sub, lI_mul, jadd, jsub, jmul, jneg, jtol, b010, b011, pv_2t, Int.toNat_natCast, Option.some.injEq, exists_eq_left', if_true, if_false]
        refine PW.ss (r := []) rfl (le_b rfl) rfl rfl (le_b rfl) (le_b rfl) ?_
        refine t_bitCount cb ⟨rfl, ⟨rfl, rfl⟩, ?_⟩
        refine vs_ok 1 ?_
        rw [show ((gRes 44).drop 16).take 1 = [.iload 1] from rfl]
        simp (disch := omega) only [vs_iload1, vs_nil, gv_0, gv_1, gv_2, gv_3, pv_0, pv_1, va_rf_s, Nat.reduceDiv, Nat.reduceMod, Nat.reduceAdd, Nat.reduceMul, Int.reduceToNat, true_and, and_true, and_self, cP_eq, cP_ne, cP_lt, cP_ge, cP_gt, cP_le, eL_i, eL_l, eL_r, eL_n, Option.toList_none, Option.toList_some, List.nil_append, List.cons_append, kkI, llI, nnI, rrI, jjI, kkJ, llJ, nnJ, rrJ, iiJ, zIIs, zJJs, nEF, nET, and_false, false_and, jmin, jmax, catS_n, catS_i, catS_r, catS_l, Nat.reduceLeDiff, j1eq1, n21, jt0, jt1, Bool.false_eq_true, Classical.not_not, true_or, or_true, false_or, or_false, true_imp_iff, false_imp_iff, not_true_eq_false, not_false_eq_true, jif0, jif1, jifb, ltT, ltF, leT, leF, eqT, eqF, jlt, jle, jeq, jlt0, jle0, jeq0, jge0, jgt0, jinB, jnat, clt, cle, ceq, cgt, cge, lI_add, lI_sub, lI_mul, jadd, jsub, jmul, jneg, jtol, b010, b011, pv_2t, Int.toNat_natCast, Option.some.injEq, exists_eq_left', if_true, if_false]
        refine PW.ss (r := [.int (iI (pcN c 12 : Nat))]) rfl (le_b rfl) rfl rfl (le_b rfl) (le_b rfl) ?_
        refine t_bitCount hb ⟨rfl, ⟨rfl, rfl⟩, ?_⟩
        have p1 := pcN_le c 12
        have p2 := pcN_le b 12
        by_cases c1 : pcN c 12 < pcN b 12
        · refine vs_ok 1 ?_
          rw [show ((gRes 44).drop 18).take 1 = [.if_icmp .ge 21] from rfl]
          simp (disch := omega) only [vs_if_icmp, vs_nil, gv_0, gv_1, gv_2, gv_3, pv_0, pv_1, va_rf_s, Nat.reduceDiv, Nat.reduceMod, Nat.reduceAdd, Nat.reduceMul, Int.reduceToNat, true_and, and_true, and_self, cP_eq, cP_ne, cP_lt, cP_ge, cP_gt, cP_le, eL_i, eL_l, eL_r, eL_n, Option.toList_none, Option.toList_some, List.nil_append, List.cons_append, kkI, llI, nnI, rrI, jjI, kkJ, llJ, nnJ, rrJ, iiJ, zIIs, zJJs, nEF, nET, and_false, false_and, jmin, jmax, catS_n, catS_i, catS_r, catS_l, Nat.reduceLeDiff, j1eq1, n21, jt0, jt1, Bool.false_eq_true, Classical.not_not, true_or, or_true, false_or, or_false, true_imp_iff, false_imp_iff, not_true_eq_false, not_false_eq_true, jif0, jif1, jifb, ltT, ltF, leT, leF, eqT, eqF, jlt, jle, jeq, jlt0, jle0, jeq0, jge0, jgt0, jinB, jnat, clt, cle, ceq, cgt, cge, lI_add, lI_sub, lI_mul, jadd, jsub, jmul, jneg, jtol, b010, b011, pv_2t, Int.toNat_natCast, Option.some.injEq, exists_eq_left', if_true, if_false]
          exact tk (Or.inr c1)
        · rw [if_neg (fun z => z.elim c0 c1)] at hf
          refine vs_ok 1 ?_
          rw [show ((gRes 44).drop 18).take 1 = [.if_icmp .ge 21] from rfl]
          simp (disch := omega) only [vs_if_icmp, vs_nil, gv_0, gv_1, gv_2, gv_3, pv_0, pv_1, va_rf_s, Nat.reduceDiv, Nat.reduceMod, Nat.reduceAdd, Nat.reduceMul, Int.reduceToNat, true_and, and_true, and_self, cP_eq, cP_ne, cP_lt, cP_ge, cP_gt, cP_le, eL_i, eL_l, eL_r, eL_n, Option.toList_none, Option.toList_some, List.nil_append, List.cons_append, kkI, llI, nnI, rrI, jjI, kkJ, llJ, nnJ, rrJ, iiJ, zIIs, zJJs, nEF, nET, and_false, false_and, jmin, jmax, catS_n, catS_i, catS_r, catS_l, Nat.reduceLeDiff, j1eq1, n21, jt0, jt1, Bool.false_eq_true, Classical.not_not, true_or, or_true, false_or, or_false, true_imp_iff, false_imp_iff, not_true_eq_false, not_false_eq_true, jif0, jif1, jifb, ltT, ltF, leT, leF, eqT, eqF, jlt, jle, jeq, jlt0, jle0, jeq0, jge0, jgt0, jinB, jnat, clt, cle, ceq, cgt, cge, lI_add, lI_sub, lI_mul, jadd, jsub, jmul, jneg, jtol, b010, b011, pv_2t, Int.toNat_natCast, Option.some.injEq, exists_eq_left', if_true, if_false]
          refine vs_ok 2 ?_
          rw [show ((gRes 44).drop 21).take 2 = [.iinc 2 1, .goto 4] from rfl]
          simp (disch := omega) only [vs_goto, vs_iinc2n, vs_iinc2i, vs_iinc2r, vs_iinc2l, vs_nil, gv_0, gv_1, gv_2, gv_3, pv_0, pv_1, va_rf_s, Nat.reduceDiv, Nat.reduceMod, Nat.reduceAdd, Nat.reduceMul, Int.reduceToNat, true_and, and_true, and_self, cP_eq, cP_ne, cP_lt, cP_ge, cP_gt, cP_le, eL_i, eL_l, eL_r, eL_n, Option.toList_none, Option.toList_some, List.nil_append, List.cons_append, kkI, llI, nnI, rrI, jjI, kkJ, llJ, nnJ, rrJ, iiJ, zIIs, zJJs, nEF, nET, and_false, false_and, jmin, jmax, catS_n, catS_i, catS_r, catS_l, Nat.reduceLeDiff, j1eq1, n21, jt0, jt1, Bool.false_eq_true, Classical.not_not, true_or, or_true, false_or, or_false, true_imp_iff, false_imp_iff, not_true_eq_false, not_false_eq_true, jif0, jif1, jifb, ltT, ltF, leT, leF, eqT, eqF, jlt, jle, jeq, jlt0, jle0, jeq0, jge0, jgt0, jinB, jnat, clt, cle, ceq, cgt, cge, lI_add, lI_sub, lI_mul, jadd, jsub, jmul, jneg, jtol, b010, b011, pv_2t, Int.toNat_natCast, Option.some.injEq, exists_eq_left', if_true, if_false]
          exact ih (s + 1) b _ (by omega) hb hf
  refine vs_ok 4 ?_
  rw [show ((gRes 44).drop 0).take 4 = [.iconst 0, .istore 1, .iconst 0, .istore 2] from rfl]
  simp (disch := omega) only [vs_iconst, vs_istore1n, vs_istore1i, vs_istore1r, vs_istore1l, vs_istore2n, vs_istore2i, vs_istore2r, vs_istore2l, vs_nil, gv_0, gv_1, gv_2, gv_3, pv_0, pv_1, va_rf_s, Nat.reduceDiv, Nat.reduceMod, Nat.reduceAdd, Nat.reduceMul, Int.reduceToNat, true_and, and_true, and_self, cP_eq, cP_ne, cP_lt, cP_ge, cP_gt, cP_le, eL_i, eL_l, eL_r, eL_n, Option.toList_none, Option.toList_some, List.nil_append, List.cons_append, kkI, llI, nnI, rrI, jjI, kkJ, llJ, nnJ, rrJ, iiJ, zIIs, zJJs, nEF, nET, and_false, false_and, jmin, jmax, catS_n, catS_i, catS_r, catS_l, Nat.reduceLeDiff, j1eq1, n21, jt0, jt1, Bool.false_eq_true, Classical.not_not, true_or, or_true, false_or, or_false, true_imp_iff, false_imp_iff, not_true_eq_false, not_false_eq_true, jif0, jif1, jifb, ltT, ltF, leT, leF, eqT, eqF, jlt, jle, jeq, jlt0, jle0, jeq0, jge0, jgt0, jinB, jnat, clt, cle, ceq, cgt, cge, lI_add, lI_sub, lI_mul, jadd, jsub, jmul, jneg, jtol, b010, b011, pv_2t, Int.toNat_natCast, Option.some.injEq, exists_eq_left', if_true, if_false]
  exact lp nm 0 0 none (by omega) (by omega) rfl
