/-! the Model's words: counted, lookAt, firstOf, swap, keepWord; isDie -/
/-- the first k letters of w, the latest first -/
def lstW (w : Nat → Nat) : Nat → List Nat
  | 0 => []
  | k + 1 => w k :: lstW w k
/-- how often letter l is among the first k -/
def cnW (w : Nat → Nat) (l : Nat) : Nat → Nat
  | 0 => 0
  | k + 1 => cnW w l k + if w k = l then 1 else 0
theorem cnW_le (w : Nat → Nat) (l : Nat) : ∀ k, cnW w l k ≤ k
  | 0 => Nat.le_refl 0
  | k + 1 => by
    have := cnW_le w l k
    show cnW w l k + (if w k = l then 1 else 0) ≤ k + 1
    split <;> omega
theorem cnW_mono (w : Nat → Nat) (l : Nat) : ∀ {a b : Nat}, a ≤ b → cnW w l a ≤ cnW w l b := fun {a b} h => by
  induction b with
  | zero => rw [show a = 0 by omega]; exact Nat.le_refl _
  | succ b ih =>
    by_cases c : a = b + 1
    · rw [c]; exact Nat.le_refl _
    · have := ih (by omega)
      show _ ≤ cnW w l b + (if w b = l then 1 else 0)
      omega
/-- the Model's letters: L of them -/
def ltS (h : Hp) (m L : Nat) (w : Nat → Nat) : Prop := zI h m 52 = iI L ∧ L ≤ 24 ∧ ∀ i, i < L → w i ≤ 3 ∧ zI h (m + 27) i = iI (w i : Nat)
theorem ltS.fi {S : Nat → Prop} {h g : Hp} {m L : Nat} {w : Nat → Nat} (t : ltS h m L w) (f : fi S h g) (h1 : zI g m 52 = zI h m 52) (h2 : ¬ S (m + 27)) : ltS g m L w := ⟨by rw [h1]; exact t.1, t.2.1, fun i hi => ⟨(t.2.2 i hi).1, by rw [f.1.2.2.2.2.2.1 _ h2]; exact (t.2.2 i hi).2⟩⟩
theorem t_M_counted {d : Nat} {h : Hp} {m L l a b : Nat} {w : Nat → Nat} {Q : Nat → Option Value → Hp → Prop} (hm : mO h m) (t : ltS h m L w) (hl : l ≤ 3) (hb : b ≤ L) (ha : a ≤ L) (hq : Q 0 (some (.int (iI ((cnW w l b - cnW w l a : Nat) : Int)))) h) : PR d m_M_counted [.ref m, .int (iI l), .int (iI a), .int (iI b)] h Q := by
  have M := hm.k
  have A := hm.letters
  have l24 := t.2.1
  show PW d 251 0 [some (.ref m), some (.int (iI l)), some (.int (iI a)), some (.int (iI b)), none, none] [] h Q
  have lp : ∀ (j i : Nat), j + i = max a b → a ≤ i → PW d 251 4 [some (.ref m), some (.int (iI l)), some (.int (iI a)), some (.int (iI b)), some (.int (iI ((cnW w l i - cnW w l a : Nat) : Int))), some (.int (iI i))] [] h Q := by
    intro j
    induction j with
    | zero =>
      intro i hi hai
      have ci := cnW_le w l i
      have cm := cnW_mono w l (show b ≤ i by omega)
      have ca := cnW_mono w l (show b ≤ max a b by omega)
      by_cases c : a ≤ b
      · have e : i = b := by omega
        subst e
        refine vs_ok 3 ?_
        rw [show ((gRes 251).drop 4).take 3 = [.iload 5, .iload 3, .if_icmp .ge 21] from rfl]
        simp (disch := omega) only [vs_if_icmp, vs_iload3, vs_iload5, vs_nil, gv_0, gv_1, gv_2, gv_3, pv_0, pv_1, va_rf_s, Nat.reduceDiv, Nat.reduceMod, Nat.reduceAdd, Nat.reduceMul, Int.reduceToNat, true_and, and_true, and_self, cP_eq, cP_ne, cP_lt, cP_ge, cP_gt, cP_le, eL_i, eL_l, eL_r, eL_n, Option.toList_none, Option.toList_some, List.nil_append, List.cons_append, kkI, llI, nnI, rrI, jjI, kkJ, llJ, nnJ, rrJ, iiJ, zIIs, zJJs, nEF, nET, and_false, false_and, jmin, jmax, catS_n, catS_i, catS_r, catS_l, Nat.reduceLeDiff, j1eq1, n21, jt0, jt1, Bool.false_eq_true, Classical.not_not, true_or, or_true, false_or, or_false, true_imp_iff, false_imp_iff, not_true_eq_false, not_false_eq_true, jif0, jif1, jifb, ltT, ltF, leT, leF, eqT, eqF, jlt, jle, jeq, jlt0, jle0, jeq0, jge0, jgt0, jinB, jnat, clt, cle, ceq, cgt, cge, lI_add, lI_sub, lI_mul, jadd, jsub, jmul, jneg, jtol, b010, b011, pv_2t, Int.toNat_natCast, Option.some.injEq, exists_eq_left', if_true, if_false]
        refine vs_ok 2 ?_
        rw [show ((gRes 251).drop 21).take 2 = [.iload 4, .ireturn] from rfl]
        simp (disch := omega) only [vs_ireturn, vs_iload4, vs_nil, gv_0, gv_1, gv_2, gv_3, pv_0, pv_1, va_rf_s, Nat.reduceDiv, Nat.reduceMod, Nat.reduceAdd, Nat.reduceMul, Int.reduceToNat, true_and, and_true, and_self, cP_eq, cP_ne, cP_lt, cP_ge, cP_gt, cP_le, eL_i, eL_l, eL_r, eL_n, Option.toList_none, Option.toList_some, List.nil_append, List.cons_append, kkI, llI, nnI, rrI, jjI, kkJ, llJ, nnJ, rrJ, iiJ, zIIs, zJJs, nEF, nET, and_false, false_and, jmin, jmax, catS_n, catS_i, catS_r, catS_l, Nat.reduceLeDiff, j1eq1, n21, jt0, jt1, Bool.false_eq_true, Classical.not_not, true_or, or_true, false_or, or_false, true_imp_iff, false_imp_iff, not_true_eq_false, not_false_eq_true, jif0, jif1, jifb, ltT, ltF, leT, leF, eqT, eqF, jlt, jle, jeq, jlt0, jle0, jeq0, jge0, jgt0, jinB, jnat, clt, cle, ceq, cgt, cge, lI_add, lI_sub, lI_mul, jadd, jsub, jmul, jneg, jtol, b010, b011, pv_2t, Int.toNat_natCast, Option.some.injEq, exists_eq_left', if_true, if_false, show gRc 251 = 1 from rfl]
        exact hq
      · have e : i = a := by omega
        subst e
        have z : cnW w l b - cnW w l i = 0 := by omega
        rw [z] at hq
        rw [Nat.sub_self]
        refine vs_ok 3 ?_
        rw [show ((gRes 251).drop 4).take 3 = [.iload 5, .iload 3, .if_icmp .ge 21] from rfl]
        simp (disch := omega) only [vs_if_icmp, vs_iload3, vs_iload5, vs_nil, gv_0, gv_1, gv_2, gv_3, pv_0, pv_1, va_rf_s, Nat.reduceDiv, Nat.reduceMod, Nat.reduceAdd, Nat.reduceMul, Int.reduceToNat, true_and, and_true, and_self, cP_eq, cP_ne, cP_lt, cP_ge, cP_gt, cP_le, eL_i, eL_l, eL_r, eL_n, Option.toList_none, Option.toList_some, List.nil_append, List.cons_append, kkI, llI, nnI, rrI, jjI, kkJ, llJ, nnJ, rrJ, iiJ, zIIs, zJJs, nEF, nET, and_false, false_and, jmin, jmax, catS_n, catS_i, catS_r, catS_l, Nat.reduceLeDiff, j1eq1, n21, jt0, jt1, Bool.false_eq_true, Classical.not_not, true_or, or_true, false_or, or_false, true_imp_iff, false_imp_iff, not_true_eq_false, not_false_eq_true, jif0, jif1, jifb, ltT, ltF, leT, leF, eqT, eqF, jlt, jle, jeq, jlt0, jle0, jeq0, jge0, jgt0, jinB, jnat, clt, cle, ceq, cgt, cge, lI_add, lI_sub, lI_mul, jadd, jsub, jmul, jneg, jtol, b010, b011, pv_2t, Int.toNat_natCast, Option.some.injEq, exists_eq_left', if_true, if_false]
        refine vs_ok 2 ?_
        rw [show ((gRes 251).drop 21).take 2 = [.iload 4, .ireturn] from rfl]
        simp (disch := omega) only [vs_ireturn, vs_iload4, vs_nil, gv_0, gv_1, gv_2, gv_3, pv_0, pv_1, va_rf_s, Nat.reduceDiv, Nat.reduceMod, Nat.reduceAdd, Nat.reduceMul, Int.reduceToNat, true_and, and_true, and_self, cP_eq, cP_ne, cP_lt, cP_ge, cP_gt, cP_le, eL_i, eL_l, eL_r, eL_n, Option.toList_none, Option.toList_some, List.nil_append, List.cons_append, kkI, llI, nnI, rrI, jjI, kkJ, llJ, nnJ, rrJ, iiJ, zIIs, zJJs, nEF, nET, and_false, false_and, jmin, jmax, catS_n, catS_i, catS_r, catS_l, Nat.reduceLeDiff, j1eq1, n21, jt0, jt1, Bool.false_eq_true, Classical.not_not, true_or, or_true, false_or, or_false, true_imp_iff, false_imp_iff, not_true_eq_false, not_false_eq_true, jif0, jif1, jifb, ltT, ltF, leT, leF, eqT, eqF, jlt, jle, jeq, jlt0, jle0, jeq0, jge0, jgt0, jinB, jnat, clt, cle, ceq, cgt, cge, lI_add, lI_sub, lI_mul, jadd, jsub, jmul, jneg, jtol, b010, b011, pv_2t, Int.toNat_natCast, Option.some.injEq, exists_eq_left', if_true, if_false, show gRc 251 = 1 from rfl]
        exact hq
    | succ j ih =>
      intro i hi hai
      have ilt : i < b := by omega
      have v := t.2.2 i (by omega)
      have ci := cnW_le w l i
      have cm := cnW_mono w l hai
      have nx := ih (i + 1) (by omega) (by omega)
      have e : cnW w l (i + 1) = cnW w l i + if w i = l then 1 else 0 := rfl
      by_cases c : w i = l
      · rw [e, if_pos c, show cnW w l i + 1 - cnW w l a = cnW w l i - cnW w l a + 1 by omega] at nx
        generalize cnW w l i - cnW w l a = u at *
        refine vs_ok 3 ?_
        rw [show ((gRes 251).drop 4).take 3 = [.iload 5, .iload 3, .if_icmp .ge 21] from rfl]
        simp (disch := omega) only [vs_if_icmp, vs_iload3, vs_iload5, vs_nil, gv_0, gv_1, gv_2, gv_3, pv_0, pv_1, va_rf_s, Nat.reduceDiv, Nat.reduceMod, Nat.reduceAdd, Nat.reduceMul, Int.reduceToNat, true_and, and_true, and_self, cP_eq, cP_ne, cP_lt, cP_ge, cP_gt, cP_le, eL_i, eL_l, eL_r, eL_n, Option.toList_none, Option.toList_some, List.nil_append, List.cons_append, kkI, llI, nnI, rrI, jjI, kkJ, llJ, nnJ, rrJ, iiJ, zIIs, zJJs, nEF, nET, and_false, false_and, jmin, jmax, catS_n, catS_i, catS_r, catS_l, Nat.reduceLeDiff, j1eq1, n21, jt0, jt1, Bool.false_eq_true, Classical.not_not, true_or, or_true, false_or, or_false, true_imp_iff, false_imp_iff, not_true_eq_false, not_false_eq_true, jif0, jif1, jifb, ltT, ltF, leT, leF, eqT, eqF, jlt, jle, jeq, jlt0, jle0, jeq0, jge0, jgt0, jinB, jnat, clt, cle, ceq, cgt, cge, lI_add, lI_sub, lI_mul, jadd, jsub, jmul, jneg, jtol, b010, b011, pv_2t, Int.toNat_natCast, Option.some.injEq, exists_eq_left', if_true, if_false]
        refine vs_ok 7 ?_
        rw [show ((gRes 251).drop 7).take 7 = [.iload 4, .aload 0, .getfield 12452, .iload 5, .iaload, .iload 1, .if_icmp .ne 16] from rfl]
        simp (disch := omega) only [vs_if_icmp, vs_getfield, vs_iaload, vs_aload0, vs_iload1, vs_iload4, vs_iload5, vs_nil, gv_0, gv_1, gv_2, gv_3, pv_0, pv_1, va_rf_s, Nat.reduceDiv, Nat.reduceMod, Nat.reduceAdd, Nat.reduceMul, Int.reduceToNat, true_and, and_true, and_self, cP_eq, cP_ne, cP_lt, cP_ge, cP_gt, cP_le, eL_i, eL_l, eL_r, eL_n, Option.toList_none, Option.toList_some, List.nil_append, List.cons_append, kkI, llI, nnI, rrI, jjI, kkJ, llJ, nnJ, rrJ, iiJ, zIIs, zJJs, nEF, nET, and_false, false_and, jmin, jmax, catS_n, catS_i, catS_r, catS_l, Nat.reduceLeDiff, j1eq1, n21, jt0, jt1, Bool.false_eq_true, Classical.not_not, true_or, or_true, false_or, or_false, true_imp_iff, false_imp_iff, not_true_eq_false, not_false_eq_true, jif0, jif1, jifb, ltT, ltF, leT, leF, eqT, eqF, jlt, jle, jeq, jlt0, jle0, jeq0, jge0, jgt0, jinB, jnat, clt, cle, ceq, cgt, cge, lI_add, lI_sub, lI_mul, jadd, jsub, jmul, jneg, jtol, b010, b011, pv_2t, Int.toNat_natCast, Option.some.injEq, exists_eq_left', if_true, if_false, M, A, v.2, c]
        refine vs_ok 2 ?_
        rw [show ((gRes 251).drop 14).take 2 = [.iconst 1, .goto 17] from rfl]
        simp (disch := omega) only [vs_iconst, vs_goto, vs_nil, gv_0, gv_1, gv_2, gv_3, pv_0, pv_1, va_rf_s, Nat.reduceDiv, Nat.reduceMod, Nat.reduceAdd, Nat.reduceMul, Int.reduceToNat, true_and, and_true, and_self, cP_eq, cP_ne, cP_lt, cP_ge, cP_gt, cP_le, eL_i, eL_l, eL_r, eL_n, Option.toList_none, Option.toList_some, List.nil_append, List.cons_append, kkI, llI, nnI, rrI, jjI, kkJ, llJ, nnJ, rrJ, iiJ, zIIs, zJJs, nEF, nET, and_false, false_and, jmin, jmax, catS_n, catS_i, catS_r, catS_l, Nat.reduceLeDiff, j1eq1, n21, jt0, jt1, Bool.false_eq_true, Classical.not_not, true_or, or_true, false_or, or_false, true_imp_iff, false_imp_iff, not_true_eq_false, not_false_eq_true, jif0, jif1, jifb, ltT, ltF, leT, leF, eqT, eqF, jlt, jle, jeq, jlt0, jle0, jeq0, jge0, jgt0, jinB, jnat, clt, cle, ceq, cgt, cge, lI_add, lI_sub, lI_mul, jadd, jsub, jmul, jneg, jtol, b010, b011, pv_2t, Int.toNat_natCast, Option.some.injEq, exists_eq_left', if_true, if_false]
        refine vs_ok 4 ?_
        rw [show ((gRes 251).drop 17).take 4 = [.iadd, .istore 4, .iinc 5 1, .goto 4] from rfl]
        simp (disch := omega) only [vs_iadd, vs_goto, vs_istore4n, vs_istore4i, vs_istore4r, vs_istore4l, vs_iinc5n, vs_iinc5i, vs_iinc5r, vs_iinc5l, vs_nil, gv_0, gv_1, gv_2, gv_3, pv_0, pv_1, va_rf_s, Nat.reduceDiv, Nat.reduceMod, Nat.reduceAdd, Nat.reduceMul, Int.reduceToNat, true_and, and_true, and_self, cP_eq, cP_ne, cP_lt, cP_ge, cP_gt, cP_le, eL_i, eL_l, eL_r, eL_n, Option.toList_none, Option.toList_some, List.nil_append, List.cons_append, kkI, llI, nnI, rrI, jjI, kkJ, llJ, nnJ, rrJ, iiJ, zIIs, zJJs, nEF, nET, and_false, false_and, jmin, jmax, catS_n, catS_i, catS_r, catS_l, Nat.reduceLeDiff, j1eq1, n21, jt0, jt1, Bool.false_eq_true, Classical.not_not, true_or, or_true, false_or, or_false, true_imp_iff, false_imp_iff, not_true_eq_false, not_false_eq_true, jif0, jif1, jifb, ltT, ltF, leT, leF, eqT, eqF, jlt, jle, jeq, jlt0, jle0, jeq0, jge0, jgt0, jinB, jnat, clt, cle, ceq, cgt, cge, lI_add, lI_sub, lI_mul, jadd, jsub, jmul, jneg, jtol, b010, b011, pv_2t, Int.toNat_natCast, Option.some.injEq, exists_eq_left', if_true, if_false]
        exact nx
      · rw [e, if_neg c, Nat.add_zero] at nx
        generalize cnW w l i - cnW w l a = u at *
        refine vs_ok 3 ?_
        rw [show ((gRes 251).drop 4).take 3 = [.iload 5, .iload 3, .if_icmp .ge 21] from rfl]
        simp (disch := omega) only [vs_if_icmp, vs_iload3, vs_iload5, vs_nil, gv_0, gv_1, gv_2, gv_3, pv_0, pv_1, va_rf_s, Nat.reduceDiv, Nat.reduceMod, Nat.reduceAdd, Nat.reduceMul, Int.reduceToNat, true_and, and_true, and_self, cP_eq, cP_ne, cP_lt, cP_ge, cP_gt, cP_le, eL_i, eL_l, eL_r, eL_n, Option.toList_none, Option.toList_some, List.nil_append, List.cons_append, kkI, llI, nnI, rrI, jjI, kkJ, llJ, nnJ, rrJ, iiJ, zIIs, zJJs, nEF, nET, and_false, false_and, jmin, jmax, catS_n, catS_i, catS_r, catS_l, Nat.reduceLeDiff, j1eq1, n21, jt0, jt1, Bool.false_eq_true, Classical.not_not, true_or, or_true, false_or, or_false, true_imp_iff, false_imp_iff, not_true_eq_false, not_false_eq_true, jif0, jif1, jifb, ltT, ltF, leT, leF, eqT, eqF, jlt, jle, jeq, jlt0, jle0, jeq0, jge0, jgt0, jinB, jnat, clt, cle, ceq, cgt, cge, lI_add, lI_sub, lI_mul, jadd, jsub, jmul, jneg, jtol, b010, b011, pv_2t, Int.toNat_natCast, Option.some.injEq, exists_eq_left', if_true, if_false]
        refine vs_ok 7 ?_
        rw [show ((gRes 251).drop 7).take 7 = [.iload 4, .aload 0, .getfield 12452, .iload 5, .iaload, .iload 1, .if_icmp .ne 16] from rfl]
        simp (disch := omega) only [vs_if_icmp, vs_getfield, vs_iaload, vs_aload0, vs_iload1, vs_iload4, vs_iload5, vs_nil, gv_0, gv_1, gv_2, gv_3, pv_0, pv_1, va_rf_s, Nat.reduceDiv, Nat.reduceMod, Nat.reduceAdd, Nat.reduceMul, Int.reduceToNat, true_and, and_true, and_self, cP_eq, cP_ne, cP_lt, cP_ge, cP_gt, cP_le, eL_i, eL_l, eL_r, eL_n, Option.toList_none, Option.toList_some, List.nil_append, List.cons_append, kkI, llI, nnI, rrI, jjI, kkJ, llJ, nnJ, rrJ, iiJ, zIIs, zJJs, nEF, nET, and_false, false_and, jmin, jmax, catS_n, catS_i, catS_r, catS_l, Nat.reduceLeDiff, j1eq1, n21, jt0, jt1, Bool.false_eq_true, Classical.not_not, true_or, or_true, false_or, or_false, true_imp_iff, false_imp_iff, not_true_eq_false, not_false_eq_true, jif0, jif1, jifb, ltT, ltF, leT, leF, eqT, eqF, jlt, jle, jeq, jlt0, jle0, jeq0, jge0, jgt0, jinB, jnat, clt, cle, ceq, cgt, cge, lI_add, lI_sub, lI_mul, jadd, jsub, jmul, jneg, jtol, b010, b011, pv_2t, Int.toNat_natCast, Option.some.injEq, exists_eq_left', if_true, if_false, M, A, v.2]
        refine vs_ok 5 ?_
        rw [show ((gRes 251).drop 16).take 5 = [.iconst 0, .iadd, .istore 4, .iinc 5 1, .goto 4] from rfl]
        simp (disch := omega) only [vs_iadd, vs_iconst, vs_goto, vs_istore4n, vs_istore4i, vs_istore4r, vs_istore4l, vs_iinc5n, vs_iinc5i, vs_iinc5r, vs_iinc5l, vs_nil, gv_0, gv_1, gv_2, gv_3, pv_0, pv_1, va_rf_s, Nat.reduceDiv, Nat.reduceMod, Nat.reduceAdd, Nat.reduceMul, Int.reduceToNat, true_and, and_true, and_self, cP_eq, cP_ne, cP_lt, cP_ge, cP_gt, cP_le, eL_i, eL_l, eL_r, eL_n, Option.toList_none, Option.toList_some, List.nil_append, List.cons_append, kkI, llI, nnI, rrI, jjI, kkJ, llJ, nnJ, rrJ, iiJ, zIIs, zJJs, nEF, nET, and_false, false_and, jmin, jmax, catS_n, catS_i, catS_r, catS_l, Nat.reduceLeDiff, j1eq1, n21, jt0, jt1, Bool.false_eq_true, Classical.not_not, true_or, or_true, false_or, or_false, true_imp_iff, false_imp_iff, not_true_eq_false, not_false_eq_true, jif0, jif1, jifb, ltT, ltF, leT, leF, eqT, eqF, jlt, jle, jeq, jlt0, jle0, jeq0, jge0, jgt0, jinB, jnat, clt, cle, ceq, cgt, cge, lI_add, lI_sub, lI_mul, jadd, jsub, jmul, jneg, jtol, b010, b011, pv_2t, Int.toNat_natCast, Option.some.injEq, exists_eq_left', if_true, if_false]
        exact nx
  refine vs_ok 4 ?_
  rw [show ((gRes 251).drop 0).take 4 = [.iconst 0, .istore 4, .iload 2, .istore 5] from rfl]
  simp (disch := omega) only [vs_iconst, vs_iload2, vs_istore4n, vs_istore4i, vs_istore4r, vs_istore4l, vs_istore5n, vs_istore5i, vs_istore5r, vs_istore5l, vs_nil, gv_0, gv_1, gv_2, gv_3, pv_0, pv_1, va_rf_s, Nat.reduceDiv, Nat.reduceMod, Nat.reduceAdd, Nat.reduceMul, Int.reduceToNat, true_and, and_true, and_self, cP_eq, cP_ne, cP_lt, cP_ge, cP_gt, cP_le, eL_i, eL_l, eL_r, eL_n, Option.toList_none, Option.toList_some, List.nil_append, List.cons_append, kkI, llI, nnI, rrI, jjI, kkJ, llJ, nnJ, rrJ, iiJ, zIIs, zJJs, nEF, nET, and_false, false_and, jmin, jmax, catS_n, catS_i, catS_r, catS_l, Nat.reduceLeDiff, j1eq1, n21, jt0, jt1, Bool.false_eq_true, Classical.not_not, true_or, or_true, false_or, or_false, true_imp_iff, false_imp_iff, not_true_eq_false, not_false_eq_true, jif0, jif1, jifb, ltT, ltF, leT, leF, eqT, eqF, jlt, jle, jeq, jlt0, jle0, jeq0, jge0, jgt0, jinB, jnat, clt, cle, ceq, cgt, cge, lI_add, lI_sub, lI_mul, jadd, jsub, jmul, jneg, jtol, b010, b011, pv_2t, Int.toNat_natCast, Option.some.injEq, exists_eq_left', if_true, if_false]
  have := lp (max a b - a) a (by omega) (Nat.le_refl _)
  rw [Nat.sub_self] at this
  exact this
theorem t_M_lookAt {d : Nat} {h : Hp} {m L : Nat} {w : Nat → Nat} {Q : Nat → Option Value → Hp → Prop} (hm : mO h m) (h54 : zI h m 54 = iI L) (hL : L ≤ 24) (hw : ∀ i, i < L → w i ≤ 3 ∧ zI h (m + 28) i = iI (w i : Nat)) (hq : ∀ g, fi (fun q => q = m ∨ q = m + 27) h g → (∀ i, i ≠ 52 → zI g m i = zI h m i) → ltS g m L w → Q 0 none g) : PR d m_M_lookAt [.ref m] h Q := by
  have M := hm.k
  show PW d 254 0 [some (.ref m), none] [] h Q
  refine vs_ok 6 ?_
  rw [show ((gRes 254).drop 0).take 6 = [.aload 0, .aload 0, .getfield 12540, .putfield 12520, .iconst 0, .istore 1] from rfl]
  simp (disch := omega) only [vs_iconst, vs_getfield, vs_putfield, vs_aload0, vs_istore1n, vs_istore1i, vs_istore1r, vs_istore1l, vs_nil, gv_0, gv_1, gv_2, gv_3, pv_0, pv_1, va_rf_s, Nat.reduceDiv, Nat.reduceMod, Nat.reduceAdd, Nat.reduceMul, Int.reduceToNat, true_and, and_true, and_self, cP_eq, cP_ne, cP_lt, cP_ge, cP_gt, cP_le, eL_i, eL_l, eL_r, eL_n, Option.toList_none, Option.toList_some, List.nil_append, List.cons_append, kkI, llI, nnI, rrI, jjI, kkJ, llJ, nnJ, rrJ, iiJ, zIIs, zJJs, nEF, nET, and_false, false_and, jmin, jmax, catS_n, catS_i, catS_r, catS_l, Nat.reduceLeDiff, j1eq1, n21, jt0, jt1, Bool.false_eq_true, Classical.not_not, true_or, or_true, false_or, or_false, true_imp_iff, false_imp_iff, not_true_eq_false, not_false_eq_true, jif0, jif1, jifb, ltT, ltF, leT, leF, eqT, eqF, jlt, jle, jeq, jlt0, jle0, jeq0, jge0, jgt0, jinB, jnat, clt, cle, ceq, cgt, cge, lI_add, lI_sub, lI_mul, jadd, jsub, jmul, jneg, jtol, b010, b011, pv_2t, Int.toNat_natCast, Option.some.injEq, exists_eq_left', if_true, if_false, M, h54]
  have f0 : fi (fun q => q = m ∨ q = m + 27) h (zsI h m 52 (iI L)) := fi_I (Or.inl rfl)
  have i0 : ∀ i, i ≠ 52 → zI (zsI h m 52 (iI L)) m i = zI h m i := fun i hi => by rw [zI_s, if_neg fun z => hi z.2]
  have i52 : zI (zsI h m 52 (iI L)) m 52 = iI L := by rw [zI_s, if_pos ⟨rfl, rfl⟩]
  generalize zsI h m 52 (iI L) = g0 at *
  have lp : ∀ (j i : Nat) (g : Hp), j + i = L → fi (fun q => q = m + 27) g0 g → (∀ u, u < i → zI g (m + 27) u = iI (w u : Nat)) → PW d 254 6 [some (.ref m), some (.int (iI i))] [] g Q := by
    intro j
    induction j with
    | zero =>
      intro i g hi f hI
      have e : i = L := by omega
      subst e
      have F := f0.tr (f.wk (T := fun q => q = m ∨ q = m + 27) fun q y => Or.inr y)
      have Mg := (hm.fi F).k
      have ix := f.1.2.2.2.2.2.1 m (by omega)
      have x54 : zI g m 54 = iI i := by rw [ix, i0 54 (by omega)]; exact h54
      refine vs_ok 4 ?_
      rw [show ((gRes 254).drop 6).take 4 = [.iload 1, .aload 0, .getfield 12540, .if_icmp .ge 20] from rfl]
      simp (disch := omega) only [vs_if_icmp, vs_getfield, vs_aload0, vs_iload1, vs_nil, gv_0, gv_1, gv_2, gv_3, pv_0, pv_1, va_rf_s, Nat.reduceDiv, Nat.reduceMod, Nat.reduceAdd, Nat.reduceMul, Int.reduceToNat, true_and, and_true, and_self, cP_eq, cP_ne, cP_lt, cP_ge, cP_gt, cP_le, eL_i, eL_l, eL_r, eL_n, Option.toList_none, Option.toList_some, List.nil_append, List.cons_append, kkI, llI, nnI, rrI, jjI, kkJ, llJ, nnJ, rrJ, iiJ, zIIs, zJJs, nEF, nET, and_false, false_and, jmin, jmax, catS_n, catS_i, catS_r, catS_l, Nat.reduceLeDiff, j1eq1, n21, jt0, jt1, Bool.false_eq_true, Classical.not_not, true_or, or_true, false_or, or_false, true_imp_iff, false_imp_iff, not_true_eq_false, not_false_eq_true, jif0, jif1, jifb, ltT, ltF, leT, leF, eqT, eqF, jlt, jle, jeq, jlt0, jle0, jeq0, jge0, jgt0, jinB, jnat, clt, cle, ceq, cgt, cge, lI_add, lI_sub, lI_mul, jadd, jsub, jmul, jneg, jtol, b010, b011, pv_2t, Int.toNat_natCast, Option.some.injEq, exists_eq_left', if_true, if_false, Mg, x54]
      refine vs_ok 1 ?_
      rw [show ((gRes 254).drop 20).take 1 = [.return_] from rfl]
      simp (disch := omega) only [vs_return_, vs_nil, gv_0, gv_1, gv_2, gv_3, pv_0, pv_1, va_rf_s, Nat.reduceDiv, Nat.reduceMod, Nat.reduceAdd, Nat.reduceMul, Int.reduceToNat, true_and, and_true, and_self, cP_eq, cP_ne, cP_lt, cP_ge, cP_gt, cP_le, eL_i, eL_l, eL_r, eL_n, Option.toList_none, Option.toList_some, List.nil_append, List.cons_append, kkI, llI, nnI, rrI, jjI, kkJ, llJ, nnJ, rrJ, iiJ, zIIs, zJJs, nEF, nET, and_false, false_and, jmin, jmax, catS_n, catS_i, catS_r, catS_l, Nat.reduceLeDiff, j1eq1, n21, jt0, jt1, Bool.false_eq_true, Classical.not_not, true_or, or_true, false_or, or_false, true_imp_iff, false_imp_iff, not_true_eq_false, not_false_eq_true, jif0, jif1, jifb, ltT, ltF, leT, leF, eqT, eqF, jlt, jle, jeq, jlt0, jle0, jeq0, jge0, jgt0, jinB, jnat, clt, cle, ceq, cgt, cge, lI_add, lI_sub, lI_mul, jadd, jsub, jmul, jneg, jtol, b010, b011, pv_2t, Int.toNat_natCast, Option.some.injEq, exists_eq_left', if_true, if_false, show gRc 254 = 0 from rfl]
      exact hq g F (fun q hq2 => by rw [ix]; exact i0 q hq2) ⟨by rw [ix]; exact i52, hL, fun u hu => ⟨(hw u hu).1, hI u hu⟩⟩
    | succ j ih =>
      intro i g hi f hI
      have F := f0.tr (f.wk (T := fun q => q = m ∨ q = m + 27) fun q y => Or.inr y)
      have hg := hm.fi F
      have Mg := hg.k
      have A27 := hg.letters
      have A28 := hg.fairWord
      have ix := f.1.2.2.2.2.2.1 m (by omega)
      have x54 : zI g m 54 = iI L := by rw [ix, i0 54 (by omega)]; exact h54
      have v := hw i (by omega)
      have v2 : zI g (m + 28) i = iI (w i : Nat) := by rw [F.1.2.2.2.2.2.1 _ (by omega)]; exact v.2
      refine vs_ok 4 ?_
      rw [show ((gRes 254).drop 6).take 4 = [.iload 1, .aload 0, .getfield 12540, .if_icmp .ge 20] from rfl]
      simp (disch := omega) only [vs_if_icmp, vs_getfield, vs_aload0, vs_iload1, vs_nil, gv_0, gv_1, gv_2, gv_3, pv_0, pv_1, va_rf_s, Nat.reduceDiv, Nat.reduceMod, Nat.reduceAdd, Nat.reduceMul, Int.reduceToNat, true_and, and_true, and_self, cP_eq, cP_ne, cP_lt, cP_ge, cP_gt, cP_le, eL_i, eL_l, eL_r, eL_n, Option.toList_none, Option.toList_some, List.nil_append, List.cons_append, kkI, llI, nnI, rrI, jjI, kkJ, llJ, nnJ, rrJ, iiJ, zIIs, zJJs, nEF, nET, and_false, false_and, jmin, jmax, catS_n, catS_i, catS_r, catS_l, Nat.reduceLeDiff, j1eq1, n21, jt0, jt1, Bool.false_eq_true, Classical.not_not, true_or, or_true, false_or, or_false, true_imp_iff, false_imp_iff, not_true_eq_false, not_false_eq_true, jif0, jif1, jifb, ltT, ltF, leT, leF, eqT, eqF, jlt, jle, jeq, jlt0, jle0, jeq0, jge0, jgt0, jinB, jnat, clt, cle, ceq, cgt, cge, lI_add, lI_sub, lI_mul, jadd, jsub, jmul, jneg, jtol, b010, b011, pv_2t, Int.toNat_natCast, Option.some.injEq, exists_eq_left', if_true, if_false, Mg, x54]
      refine vs_ok 10 ?_
      rw [show ((gRes 254).drop 10).take 10 = [.aload 0, .getfield 12452, .iload 1, .aload 0, .getfield 12462, .iload 1, .iaload, .iastore, .iinc 1 1, .goto 6] from rfl]
      simp (disch := omega) only [vs_goto, vs_getfield, vs_iaload, vs_iastore, vs_aload0, vs_iload1, vs_iinc1n, vs_iinc1i, vs_iinc1r, vs_iinc1l, vs_nil, gv_0, gv_1, gv_2, gv_3, pv_0, pv_1, va_rf_s, Nat.reduceDiv, Nat.reduceMod, Nat.reduceAdd, Nat.reduceMul, Int.reduceToNat, true_and, and_true, and_self, cP_eq, cP_ne, cP_lt, cP_ge, cP_gt, cP_le, eL_i, eL_l, eL_r, eL_n, Option.toList_none, Option.toList_some, List.nil_append, List.cons_append, kkI, llI, nnI, rrI, jjI, kkJ, llJ, nnJ, rrJ, iiJ, zIIs, zJJs, nEF, nET, and_false, false_and, jmin, jmax, catS_n, catS_i, catS_r, catS_l, Nat.reduceLeDiff, j1eq1, n21, jt0, jt1, Bool.false_eq_true, Classical.not_not, true_or, or_true, false_or, or_false, true_imp_iff, false_imp_iff, not_true_eq_false, not_false_eq_true, jif0, jif1, jifb, ltT, ltF, leT, leF, eqT, eqF, jlt, jle, jeq, jlt0, jle0, jeq0, jge0, jgt0, jinB, jnat, clt, cle, ceq, cgt, cge, lI_add, lI_sub, lI_mul, jadd, jsub, jmul, jneg, jtol, b010, b011, pv_2t, Int.toNat_natCast, Option.some.injEq, exists_eq_left', if_true, if_false, Mg, A27, A28, v2]
      refine ih (i + 1) _ (by omega) (f.I rfl) fun u hu => ?_
      rw [zI_s]
      by_cases y : u = i
      · rw [if_pos ⟨rfl, y⟩, y]
      · rw [if_neg fun z => y z.2]
        exact hI u (by omega)
  exact lp L 0 g0 (by omega) fi.rf fun u hu => absurd hu (by omega)
theorem t_M_firstOf {d : Nat} {h : Hp} {m n f : Nat} {Q : Nat → Option Value → Hp → Prop} (hm : mO h m) (hn : n ≤ 4) (hf : 1 ≤ f ∧ f ≤ 6) (hq : ∀ g, fi (fun q => q = m ∨ q = m + 27) h g → (∀ i, i ≠ 52 → zI g m i = zI h m i) → ltS g m (n * f) (fun i => i / f) → Q 0 none g) : PR d m_M_firstOf [.ref m, .int (iI n), .int (iI f)] h Q := by
  have M := hm.k
  have nf : n * f ≤ 4 * 6 := Nat.mul_le_mul hn hf.2
  have mu : (n : Int) * (f : Int) = ((n * f : Nat) : Int) := (Int.natCast_mul _ _).symm
  show PW d 257 0 [some (.ref m), some (.int (iI n)), some (.int (iI f)), none] [] h Q
  have dv : ∀ i, i < n * f → i / f ≤ 3 := fun i hi => by
    have : i / f < n := Nat.div_lt_of_lt_mul (by rw [Nat.mul_comm]; exact hi)
    omega
  have jd : ∀ i : Nat, i ≤ 24 → Int32.ofInt (i : Int) / Int32.ofInt (f : Int) = Int32.ofInt ((i / f : Nat) : Int) := fun i hi => by
    have := iI_div (x := (i : Int)) (y := (f : Int)) (by constructor <;> omega) (by constructor <;> omega) (by omega) (by omega)
    rw [← Int.natCast_ediv] at this
    exact this
  have f0' : ((Int32.ofInt (f : Int) : Int32) = 0) = False := eq_false fun z => by
    have := (iI_eq (y := 0) (by constructor <;> omega) (by constructor <;> omega)).mp z
    omega
  generalize hP : n * f = P at *
  refine vs_ok 7 ?_
  rw [show ((gRes 257).drop 0).take 7 = [.aload 0, .iload 1, .iload 2, .imul, .putfield 12520, .iconst 0, .istore 3] from rfl]
  simp (disch := omega) only [vs_imul, vs_iconst, vs_putfield, vs_aload0, vs_iload1, vs_iload2, vs_istore3n, vs_istore3i, vs_istore3r, vs_istore3l, vs_nil, gv_0, gv_1, gv_2, gv_3, pv_0, pv_1, va_rf_s, Nat.reduceDiv, Nat.reduceMod, Nat.reduceAdd, Nat.reduceMul, Int.reduceToNat, true_and, and_true, and_self, cP_eq, cP_ne, cP_lt, cP_ge, cP_gt, cP_le, eL_i, eL_l, eL_r, eL_n, Option.toList_none, Option.toList_some, List.nil_append, List.cons_append, kkI, llI, nnI, rrI, jjI, kkJ, llJ, nnJ, rrJ, iiJ, zIIs, zJJs, nEF, nET, and_false, false_and, jmin, jmax, catS_n, catS_i, catS_r, catS_l, Nat.reduceLeDiff, j1eq1, n21, jt0, jt1, Bool.false_eq_true, Classical.not_not, true_or, or_true, false_or, or_false, true_imp_iff, false_imp_iff, not_true_eq_false, not_false_eq_true, jif0, jif1, jifb, ltT, ltF, leT, leF, eqT, eqF, jlt, jle, jeq, jlt0, jle0, jeq0, jge0, jgt0, jinB, jnat, clt, cle, ceq, cgt, cge, lI_add, lI_sub, lI_mul, jadd, jsub, jmul, jneg, jtol, b010, b011, pv_2t, Int.toNat_natCast, Option.some.injEq, exists_eq_left', if_true, if_false, M, mu]
  have fi0 : fi (fun q => q = m ∨ q = m + 27) h (zsI h m 52 (iI P)) := fi_I (Or.inl rfl)
  have i0 : ∀ i, i ≠ 52 → zI (zsI h m 52 (iI P)) m i = zI h m i := fun i hi => by rw [zI_s, if_neg fun z => hi z.2]
  have i52 : zI (zsI h m 52 (iI P)) m 52 = iI P := by rw [zI_s, if_pos ⟨rfl, rfl⟩]
  generalize zsI h m 52 (iI P) = g0 at *
  have lp : ∀ (j i : Nat) (g : Hp), j + i = P → fi (fun q => q = m + 27) g0 g → (∀ u, u < i → zI g (m + 27) u = iI ((u / f : Nat) : Int)) → PW d 257 7 [some (.ref m), some (.int (iI n)), some (.int (iI f)), some (.int (iI i))] [] g Q := by
    intro j
    induction j with
    | zero =>
      intro i g hi fg hI
      have e : i = P := by omega
      subst e
      have F := fi0.tr (fg.wk (T := fun q => q = m ∨ q = m + 27) fun q y => Or.inr y)
      have Mg := (hm.fi F).k
      have ix := fg.1.2.2.2.2.2.1 m (by omega)
      have x52 : zI g m 52 = iI i := by rw [ix]; exact i52
      refine vs_ok 4 ?_
      rw [show ((gRes 257).drop 7).take 4 = [.iload 3, .aload 0, .getfield 12520, .if_icmp .ge 20] from rfl]
      simp (disch := omega) only [vs_if_icmp, vs_getfield, vs_aload0, vs_iload3, vs_nil, gv_0, gv_1, gv_2, gv_3, pv_0, pv_1, va_rf_s, Nat.reduceDiv, Nat.reduceMod, Nat.reduceAdd, Nat.reduceMul, Int.reduceToNat, true_and, and_true, and_self, cP_eq, cP_ne, cP_lt, cP_ge, cP_gt, cP_le, eL_i, eL_l, eL_r, eL_n, Option.toList_none, Option.toList_some, List.nil_append, List.cons_append, kkI, llI, nnI, rrI, jjI, kkJ, llJ, nnJ, rrJ, iiJ, zIIs, zJJs, nEF, nET, and_false, false_and, jmin, jmax, catS_n, catS_i, catS_r, catS_l, Nat.reduceLeDiff, j1eq1, n21, jt0, jt1, Bool.false_eq_true, Classical.not_not, true_or, or_true, false_or, or_false, true_imp_iff, false_imp_iff, not_true_eq_false, not_false_eq_true, jif0, jif1, jifb, ltT, ltF, leT, leF, eqT, eqF, jlt, jle, jeq, jlt0, jle0, jeq0, jge0, jgt0, jinB, jnat, clt, cle, ceq, cgt, cge, lI_add, lI_sub, lI_mul, jadd, jsub, jmul, jneg, jtol, b010, b011, pv_2t, Int.toNat_natCast, Option.some.injEq, exists_eq_left', if_true, if_false, Mg, x52]
      refine vs_ok 1 ?_
      rw [show ((gRes 257).drop 20).take 1 = [.return_] from rfl]
      simp (disch := omega) only [vs_return_, vs_nil, gv_0, gv_1, gv_2, gv_3, pv_0, pv_1, va_rf_s, Nat.reduceDiv, Nat.reduceMod, Nat.reduceAdd, Nat.reduceMul, Int.reduceToNat, true_and, and_true, and_self, cP_eq, cP_ne, cP_lt, cP_ge, cP_gt, cP_le, eL_i, eL_l, eL_r, eL_n, Option.toList_none, Option.toList_some, List.nil_append, List.cons_append, kkI, llI, nnI, rrI, jjI, kkJ, llJ, nnJ, rrJ, iiJ, zIIs, zJJs, nEF, nET, and_false, false_and, jmin, jmax, catS_n, catS_i, catS_r, catS_l, Nat.reduceLeDiff, j1eq1, n21, jt0, jt1, Bool.false_eq_true, Classical.not_not, true_or, or_true, false_or, or_false, true_imp_iff, false_imp_iff, not_true_eq_false, not_false_eq_true, jif0, jif1, jifb, ltT, ltF, leT, leF, eqT, eqF, jlt, jle, jeq, jlt0, jle0, jeq0, jge0, jgt0, jinB, jnat, clt, cle, ceq, cgt, cge, lI_add, lI_sub, lI_mul, jadd, jsub, jmul, jneg, jtol, b010, b011, pv_2t, Int.toNat_natCast, Option.some.injEq, exists_eq_left', if_true, if_false, show gRc 257 = 0 from rfl]
      exact hq g F (fun q hq2 => by rw [ix]; exact i0 q hq2) ⟨x52, by omega, fun u hu => ⟨dv u hu, hI u hu⟩⟩
    | succ j ih =>
      intro i g hi fg hI
      have F := fi0.tr (fg.wk (T := fun q => q = m ∨ q = m + 27) fun q y => Or.inr y)
      have hg := hm.fi F
      have Mg := hg.k
      have A27 := hg.letters
      have ix := fg.1.2.2.2.2.2.1 m (by omega)
      have x52 : zI g m 52 = iI P := by rw [ix]; exact i52
      refine vs_ok 4 ?_
      rw [show ((gRes 257).drop 7).take 4 = [.iload 3, .aload 0, .getfield 12520, .if_icmp .ge 20] from rfl]
      simp (disch := omega) only [vs_if_icmp, vs_getfield, vs_aload0, vs_iload3, vs_nil, gv_0, gv_1, gv_2, gv_3, pv_0, pv_1, va_rf_s, Nat.reduceDiv, Nat.reduceMod, Nat.reduceAdd, Nat.reduceMul, Int.reduceToNat, true_and, and_true, and_self, cP_eq, cP_ne, cP_lt, cP_ge, cP_gt, cP_le, eL_i, eL_l, eL_r, eL_n, Option.toList_none, Option.toList_some, List.nil_append, List.cons_append, kkI, llI, nnI, rrI, jjI, kkJ, llJ, nnJ, rrJ, iiJ, zIIs, zJJs, nEF, nET, and_false, false_and, jmin, jmax, catS_n, catS_i, catS_r, catS_l, Nat.reduceLeDiff, j1eq1, n21, jt0, jt1, Bool.false_eq_true, Classical.not_not, true_or, or_true, false_or, or_false, true_imp_iff, false_imp_iff, not_true_eq_false, not_false_eq_true, jif0, jif1, jifb, ltT, ltF, leT, leF, eqT, eqF, jlt, jle, jeq, jlt0, jle0, jeq0, jge0, jgt0, jinB, jnat, clt, cle, ceq, cgt, cge, lI_add, lI_sub, lI_mul, jadd, jsub, jmul, jneg, jtol, b010, b011, pv_2t, Int.toNat_natCast, Option.some.injEq, exists_eq_left', if_true, if_false, Mg, x52]
      refine vs_ok 9 ?_
      rw [show ((gRes 257).drop 11).take 9 = [.aload 0, .getfield 12452, .iload 3, .iload 3, .iload 2, .idiv, .iastore, .iinc 3 1, .goto 7] from rfl]
      simp (disch := omega) only [vs_idiv, vs_goto, vs_getfield, vs_iastore, vs_aload0, vs_iload2, vs_iload3, vs_iinc3n, vs_iinc3i, vs_iinc3r, vs_iinc3l, vs_nil, gv_0, gv_1, gv_2, gv_3, pv_0, pv_1, va_rf_s, Nat.reduceDiv, Nat.reduceMod, Nat.reduceAdd, Nat.reduceMul, Int.reduceToNat, true_and, and_true, and_self, cP_eq, cP_ne, cP_lt, cP_ge, cP_gt, cP_le, eL_i, eL_l, eL_r, eL_n, Option.toList_none, Option.toList_some, List.nil_append, List.cons_append, kkI, llI, nnI, rrI, jjI, kkJ, llJ, nnJ, rrJ, iiJ, zIIs, zJJs, nEF, nET, and_false, false_and, jmin, jmax, catS_n, catS_i, catS_r, catS_l, Nat.reduceLeDiff, j1eq1, n21, jt0, jt1, Bool.false_eq_true, Classical.not_not, true_or, or_true, false_or, or_false, true_imp_iff, false_imp_iff, not_true_eq_false, not_false_eq_true, jif0, jif1, jifb, ltT, ltF, leT, leF, eqT, eqF, jlt, jle, jeq, jlt0, jle0, jeq0, jge0, jgt0, jinB, jnat, clt, cle, ceq, cgt, cge, lI_add, lI_sub, lI_mul, jadd, jsub, jmul, jneg, jtol, b010, b011, pv_2t, Int.toNat_natCast, Option.some.injEq, exists_eq_left', if_true, if_false, Mg, A27, f0', jd]
      refine ih (i + 1) _ (by omega) (fg.I rfl) fun u hu => ?_
      rw [zI_s]
      by_cases y : u = i
      · rw [if_pos ⟨rfl, y⟩, y]
      · rw [if_neg fun z => y z.2]
        exact hI u (by omega)
  exact lp P 0 g0 (by omega) fi.rf fun u hu => absurd hu (by omega)
/-- two letters change places -/
def swW (w : Nat → Nat) (a b i : Nat) : Nat := if i = b then w a else if i = a then w b else w i
theorem t_M_swap {d : Nat} {h : Hp} {m L a b : Nat} {w : Nat → Nat} {Q : Nat → Option Value → Hp → Prop} (hm : mO h m) (t : ltS h m L w) (ha : a < L) (hb : b < L) (hq : ∀ g, fi (fun q => q = m + 27) h g → ltS g m L (swW w a b) → Q 0 none g) : PR d m_M_swap [.ref m, .int (iI a), .int (iI b)] h Q := by
  have M := hm.k
  have A := hm.letters
  have l24 := t.2.1
  have va := (t.2.2 a ha).2
  have vb := (t.2.2 b hb).2
  show PW d 259 0 [some (.ref m), some (.int (iI a)), some (.int (iI b)), none] [] h Q
  refine vs_ok 19 ?_
  rw [show ((gRes 259).drop 0).take 19 = [.aload 0, .getfield 12452, .iload 1, .iaload, .istore 3, .aload 0, .getfield 12452, .iload 1, .aload 0, .getfield 12452, .iload 2, .iaload, .iastore, .aload 0, .getfield 12452, .iload 2, .iload 3, .iastore, .return_] from rfl]
  simp (disch := omega) only [vs_getfield, vs_iaload, vs_iastore, vs_return_, vs_aload0, vs_iload1, vs_iload2, vs_iload3, vs_istore3n, vs_istore3i, vs_istore3r, vs_istore3l, vs_nil, gv_0, gv_1, gv_2, gv_3, pv_0, pv_1, va_rf_s, Nat.reduceDiv, Nat.reduceMod, Nat.reduceAdd, Nat.reduceMul, Int.reduceToNat, true_and, and_true, and_self, cP_eq, cP_ne, cP_lt, cP_ge, cP_gt, cP_le, eL_i, eL_l, eL_r, eL_n, Option.toList_none, Option.toList_some, List.nil_append, List.cons_append, kkI, llI, nnI, rrI, jjI, kkJ, llJ, nnJ, rrJ, iiJ, zIIs, zJJs, nEF, nET, and_false, false_and, jmin, jmax, catS_n, catS_i, catS_r, catS_l, Nat.reduceLeDiff, j1eq1, n21, jt0, jt1, Bool.false_eq_true, Classical.not_not, true_or, or_true, false_or, or_false, true_imp_iff, false_imp_iff, not_true_eq_false, not_false_eq_true, jif0, jif1, jifb, ltT, ltF, leT, leF, eqT, eqF, jlt, jle, jeq, jlt0, jle0, jeq0, jge0, jgt0, jinB, jnat, clt, cle, ceq, cgt, cge, lI_add, lI_sub, lI_mul, jadd, jsub, jmul, jneg, jtol, b010, b011, pv_2t, Int.toNat_natCast, Option.some.injEq, exists_eq_left', if_true, if_false, M, A, va, vb, show gRc 259 = 0 from rfl]
  refine hq _ ((fi_I (S := fun q => q = m + 27) rfl).I rfl) ⟨by rw [zI_s, if_neg (by omega), zI_s, if_neg (by omega)]; exact t.1, l24, fun i hi => ?_⟩
  unfold swW
  rw [zI_s, zI_s]
  by_cases c : i = b
  · rw [if_pos c, if_pos ⟨rfl, c⟩]
    exact ⟨(t.2.2 a ha).1, rfl⟩
  · rw [if_neg c, if_neg (show ¬ (m + 27 = m + 27 ∧ i = b) from fun z => c z.2)]
    by_cases c2 : i = a
    · rw [if_pos c2, if_pos ⟨rfl, c2⟩]
      exact ⟨(t.2.2 b hb).1, rfl⟩
    · rw [if_neg c2, if_neg (show ¬ (m + 27 = m + 27 ∧ i = a) from fun z => c2 z.2)]
      exact t.2.2 i hi
theorem t_M_keepWord {d : Nat} {h : Hp} {m L : Nat} {w : Nat → Nat} {Q : Nat → Option Value → Hp → Prop} (hm : mO h m) (t : ltS h m L w) (hq : ∀ g, fi (fun q => q = m ∨ q = m + 29) h g → (∀ i, i ≠ 56 → zI g m i = zI h m i) → zI g m 56 = iI L → (∀ i, i < L → zI g (m + 29) i = iI (w i : Nat)) → Q 0 none g) : PR d m_M_keepWord [.ref m] h Q := by
  have M := hm.k
  have h52 := t.1
  have l24 := t.2.1
  show PW d 260 0 [some (.ref m), none] [] h Q
  refine vs_ok 6 ?_
  rw [show ((gRes 260).drop 0).take 6 = [.aload 0, .aload 0, .getfield 12520, .putfield 12560, .iconst 0, .istore 1] from rfl]
  simp (disch := omega) only [vs_iconst, vs_getfield, vs_putfield, vs_aload0, vs_istore1n, vs_istore1i, vs_istore1r, vs_istore1l, vs_nil, gv_0, gv_1, gv_2, gv_3, pv_0, pv_1, va_rf_s, Nat.reduceDiv, Nat.reduceMod, Nat.reduceAdd, Nat.reduceMul, Int.reduceToNat, true_and, and_true, and_self, cP_eq, cP_ne, cP_lt, cP_ge, cP_gt, cP_le, eL_i, eL_l, eL_r, eL_n, Option.toList_none, Option.toList_some, List.nil_append, List.cons_append, kkI, llI, nnI, rrI, jjI, kkJ, llJ, nnJ, rrJ, iiJ, zIIs, zJJs, nEF, nET, and_false, false_and, jmin, jmax, catS_n, catS_i, catS_r, catS_l, Nat.reduceLeDiff, j1eq1, n21, jt0, jt1, Bool.false_eq_true, Classical.not_not, true_or, or_true, false_or, or_false, true_imp_iff, false_imp_iff, not_true_eq_false, not_false_eq_true, jif0, jif1, jifb, ltT, ltF, leT, leF, eqT, eqF, jlt, jle, jeq, jlt0, jle0, jeq0, jge0, jgt0, jinB, jnat, clt, cle, ceq, cgt, cge, lI_add, lI_sub, lI_mul, jadd, jsub, jmul, jneg, jtol, b010, b011, pv_2t, Int.toNat_natCast, Option.some.injEq, exists_eq_left', if_true, if_false, M, h52]
  have f0 : fi (fun q => q = m ∨ q = m + 29) h (zsI h m 56 (iI L)) := fi_I (Or.inl rfl)
  have i0 : ∀ i, i ≠ 56 → zI (zsI h m 56 (iI L)) m i = zI h m i := fun i hi => by rw [zI_s, if_neg fun z => hi z.2]
  have i56 : zI (zsI h m 56 (iI L)) m 56 = iI L := by rw [zI_s, if_pos ⟨rfl, rfl⟩]
  generalize zsI h m 56 (iI L) = g0 at *
  have lp : ∀ (j i : Nat) (g : Hp), j + i = L → fi (fun q => q = m + 29) g0 g → (∀ u, u < i → zI g (m + 29) u = iI (w u : Nat)) → PW d 260 6 [some (.ref m), some (.int (iI i))] [] g Q := by
    intro j
    induction j with
    | zero =>
      intro i g hi f hI
      have e : i = L := by omega
      subst e
      have F := f0.tr (f.wk (T := fun q => q = m ∨ q = m + 29) fun q y => Or.inr y)
      have Mg := (hm.fi F).k
      have ix := f.1.2.2.2.2.2.1 m (by omega)
      have x52 : zI g m 52 = iI i := by rw [ix, i0 52 (by omega)]; exact h52
      refine vs_ok 4 ?_
      rw [show ((gRes 260).drop 6).take 4 = [.iload 1, .aload 0, .getfield 12520, .if_icmp .ge 20] from rfl]
      simp (disch := omega) only [vs_if_icmp, vs_getfield, vs_aload0, vs_iload1, vs_nil, gv_0, gv_1, gv_2, gv_3, pv_0, pv_1, va_rf_s, Nat.reduceDiv, Nat.reduceMod, Nat.reduceAdd, Nat.reduceMul, Int.reduceToNat, true_and, and_true, and_self, cP_eq, cP_ne, cP_lt, cP_ge, cP_gt, cP_le, eL_i, eL_l, eL_r, eL_n, Option.toList_none, Option.toList_some, List.nil_append, List.cons_append, kkI, llI, nnI, rrI, jjI, kkJ, llJ, nnJ, rrJ, iiJ, zIIs, zJJs, nEF, nET, and_false, false_and, jmin, jmax, catS_n, catS_i, catS_r, catS_l, Nat.reduceLeDiff, j1eq1, n21, jt0, jt1, Bool.false_eq_true, Classical.not_not, true_or, or_true, false_or, or_false, true_imp_iff, false_imp_iff, not_true_eq_false, not_false_eq_true, jif0, jif1, jifb, ltT, ltF, leT, leF, eqT, eqF, jlt, jle, jeq, jlt0, jle0, jeq0, jge0, jgt0, jinB, jnat, clt, cle, ceq, cgt, cge, lI_add, lI_sub, lI_mul, jadd, jsub, jmul, jneg, jtol, b010, b011, pv_2t, Int.toNat_natCast, Option.some.injEq, exists_eq_left', if_true, if_false, Mg, x52]
      refine vs_ok 1 ?_
      rw [show ((gRes 260).drop 20).take 1 = [.return_] from rfl]
      simp (disch := omega) only [vs_return_, vs_nil, gv_0, gv_1, gv_2, gv_3, pv_0, pv_1, va_rf_s, Nat.reduceDiv, Nat.reduceMod, Nat.reduceAdd, Nat.reduceMul, Int.reduceToNat, true_and, and_true, and_self, cP_eq, cP_ne, cP_lt, cP_ge, cP_gt, cP_le, eL_i, eL_l, eL_r, eL_n, Option.toList_none, Option.toList_some, List.nil_append, List.cons_append, kkI, llI, nnI, rrI, jjI, kkJ, llJ, nnJ, rrJ, iiJ, zIIs, zJJs, nEF, nET, and_false, false_and, jmin, jmax, catS_n, catS_i, catS_r, catS_l, Nat.reduceLeDiff, j1eq1, n21, jt0, jt1, Bool.false_eq_true, Classical.not_not, true_or, or_true, false_or, or_false, true_imp_iff, false_imp_iff, not_true_eq_false, not_false_eq_true, jif0, jif1, jifb, ltT, ltF, leT, leF, eqT, eqF, jlt, jle, jeq, jlt0, jle0, jeq0, jge0, jgt0, jinB, jnat, clt, cle, ceq, cgt, cge, lI_add, lI_sub, lI_mul, jadd, jsub, jmul, jneg, jtol, b010, b011, pv_2t, Int.toNat_natCast, Option.some.injEq, exists_eq_left', if_true, if_false, show gRc 260 = 0 from rfl]
      exact hq g F (fun q hq2 => by rw [ix]; exact i0 q hq2) (by rw [ix]; exact i56) hI
    | succ j ih =>
      intro i g hi f hI
      have F := f0.tr (f.wk (T := fun q => q = m ∨ q = m + 29) fun q y => Or.inr y)
      have hg := hm.fi F
      have Mg := hg.k
      have A27 := hg.letters
      have A29 := hg.keptWord
      have ix := f.1.2.2.2.2.2.1 m (by omega)
      have x52 : zI g m 52 = iI L := by rw [ix, i0 52 (by omega)]; exact h52
      have v2 : zI g (m + 27) i = iI (w i : Nat) := by rw [F.1.2.2.2.2.2.1 _ (by omega)]; exact (t.2.2 i (by omega)).2
      refine vs_ok 4 ?_
      rw [show ((gRes 260).drop 6).take 4 = [.iload 1, .aload 0, .getfield 12520, .if_icmp .ge 20] from rfl]
      simp (disch := omega) only [vs_if_icmp, vs_getfield, vs_aload0, vs_iload1, vs_nil, gv_0, gv_1, gv_2, gv_3, pv_0, pv_1, va_rf_s, Nat.reduceDiv, Nat.reduceMod, Nat.reduceAdd, Nat.reduceMul, Int.reduceToNat, true_and, and_true, and_self, cP_eq, cP_ne, cP_lt, cP_ge, cP_gt, cP_le, eL_i, eL_l, eL_r, eL_n, Option.toList_none, Option.toList_some, List.nil_append, List.cons_append, kkI, llI, nnI, rrI, jjI, kkJ, llJ, nnJ, rrJ, iiJ, zIIs, zJJs, nEF, nET, and_false, false_and, jmin, jmax, catS_n, catS_i, catS_r, catS_l, Nat.reduceLeDiff, j1eq1, n21, jt0, jt1, Bool.false_eq_true, Classical.not_not, true_or, or_true, false_or, or_false, true_imp_iff, false_imp_iff, not_true_eq_false, not_false_eq_true, jif0, jif1, jifb, ltT, ltF, leT, leF, eqT, eqF, jlt, jle, jeq, jlt0, jle0, jeq0, jge0, jgt0, jinB, jnat, clt, cle, ceq, cgt, cge, lI_add, lI_sub, lI_mul, jadd, jsub, jmul, jneg, jtol, b010, b011, pv_2t, Int.toNat_natCast, Option.some.injEq, exists_eq_left', if_true, if_false, Mg, x52]
      refine vs_ok 10 ?_
      rw [show ((gRes 260).drop 10).take 10 = [.aload 0, .getfield 12472, .iload 1, .aload 0, .getfield 12452, .iload 1, .iaload, .iastore, .iinc 1 1, .goto 6] from rfl]
      simp (disch := omega) only [vs_goto, vs_getfield, vs_iaload, vs_iastore, vs_aload0, vs_iload1, vs_iinc1n, vs_iinc1i, vs_iinc1r, vs_iinc1l, vs_nil, gv_0, gv_1, gv_2, gv_3, pv_0, pv_1, va_rf_s, Nat.reduceDiv, Nat.reduceMod, Nat.reduceAdd, Nat.reduceMul, Int.reduceToNat, true_and, and_true, and_self, cP_eq, cP_ne, cP_lt, cP_ge, cP_gt, cP_le, eL_i, eL_l, eL_r, eL_n, Option.toList_none, Option.toList_some, List.nil_append, List.cons_append, kkI, llI, nnI, rrI, jjI, kkJ, llJ, nnJ, rrJ, iiJ, zIIs, zJJs, nEF, nET, and_false, false_and, jmin, jmax, catS_n, catS_i, catS_r, catS_l, Nat.reduceLeDiff, j1eq1, n21, jt0, jt1, Bool.false_eq_true, Classical.not_not, true_or, or_true, false_or, or_false, true_imp_iff, false_imp_iff, not_true_eq_false, not_false_eq_true, jif0, jif1, jifb, ltT, ltF, leT, leF, eqT, eqF, jlt, jle, jeq, jlt0, jle0, jeq0, jge0, jgt0, jinB, jnat, clt, cle, ceq, cgt, cge, lI_add, lI_sub, lI_mul, jadd, jsub, jmul, jneg, jtol, b010, b011, pv_2t, Int.toNat_natCast, Option.some.injEq, exists_eq_left', if_true, if_false, Mg, A27, A29, v2]
      refine ih (i + 1) _ (by omega) (f.I rfl) fun u hu => ?_
      rw [zI_s]
      by_cases y : u = i
      · rw [if_pos ⟨rfl, y⟩, y]
      · rw [if_neg fun z => y z.2]
        exact hI u (by omega)
  exact lp L 0 g0 (by omega) fi.rf fun u hu => absurd hu (by omega)
theorem t_M_isDie {d : Nat} {h : Hp} {m nm : Nat} {k : Int} {F : Nat → Int} {V : Nat → RowVal} {Q : Nat → Option Value → Hp → Prop} (hm : mO h m) (n : mnS h m nm F V) (hF : ∀ i : Nat, (i : Int) < nm → 0 ≤ F i ∧ F i ≤ 12) (hk : i32 k) (hq : Q 0 (some (.int (iI (if smD F nm k then 1 else 0)))) h) : PR (d + 2) m_M_isDie [.ref m, .int (iI k)] h Q := by
  have M := hm.k
  have A := hm.faceMany
  have n2 := n.2.1
  unfold smD at hq
  show PW (d + 2) 241 0 [some (.ref m), some (.int (iI k))] [] h Q
  refine vs_ok 2 ?_
  rw [show ((gRes 241).drop 0).take 2 = [.aload 0, .iload 1] from rfl]
  simp (disch := omega) only [vs_aload0, vs_iload1, vs_nil, gv_0, gv_1, gv_2, gv_3, pv_0, pv_1, va_rf_s, Nat.reduceDiv, Nat.reduceMod, Nat.reduceAdd, Nat.reduceMul, Int.reduceToNat, true_and, and_true, and_self, cP_eq, cP_ne, cP_lt, cP_ge, cP_gt, cP_le, eL_i, eL_l, eL_r, eL_n, Option.toList_none, Option.toList_some, List.nil_append, List.cons_append, kkI, llI, nnI, rrI, jjI, kkJ, llJ, nnJ, rrJ, iiJ, zIIs, zJJs, nEF, nET, and_false, false_and, jmin, jmax, catS_n, catS_i, catS_r, catS_l, Nat.reduceLeDiff, j1eq1, n21, jt0, jt1, Bool.false_eq_true, Classical.not_not, true_or, or_true, false_or, or_false, true_imp_iff, false_imp_iff, not_true_eq_false, not_false_eq_true, jif0, jif1, jifb, ltT, ltF, leT, leF, eqT, eqF, jlt, jle, jeq, jlt0, jle0, jeq0, jge0, jgt0, jinB, jnat, clt, cle, ceq, cgt, cge, lI_add, lI_sub, lI_mul, jadd, jsub, jmul, jneg, jtol, b010, b011, pv_2t, Int.toNat_natCast, Option.some.injEq, exists_eq_left', if_true, if_false]
  refine PW.iv rfl rfl rfl M.1 M.2 (le_b rfl) (le_b rfl) ?_
  refine t_M_is hm n.1 n2 hk ⟨rfl, ⟨rfl, rfl⟩, ?_⟩
  by_cases c : 0 ≤ k ∧ k < nm
  · rw [if_pos c]
    obtain ⟨k, rfl⟩ : ∃ j : Nat, k = j := ⟨k.toNat, by omega⟩
    rw [Int.toNat_natCast] at hq
    have fk := (n.2.2 k (by omega)).1
    have fb := hF k (by omega)
    refine vs_ok 7 ?_
    rw [show ((gRes 241).drop 3).take 7 = [.ifCond .eq 14, .aload 0, .getfield 12102, .iload 1, .iaload, .iconst 1, .iconst 8] from rfl]
    simp (disch := omega) only [vs_iconst, vs_ifCond, vs_getfield, vs_iaload, vs_aload0, vs_iload1, vs_nil, gv_0, gv_1, gv_2, gv_3, pv_0, pv_1, va_rf_s, Nat.reduceDiv, Nat.reduceMod, Nat.reduceAdd, Nat.reduceMul, Int.reduceToNat, true_and, and_true, and_self, cP_eq, cP_ne, cP_lt, cP_ge, cP_gt, cP_le, eL_i, eL_l, eL_r, eL_n, Option.toList_none, Option.toList_some, List.nil_append, List.cons_append, kkI, llI, nnI, rrI, jjI, kkJ, llJ, nnJ, rrJ, iiJ, zIIs, zJJs, nEF, nET, and_false, false_and, jmin, jmax, catS_n, catS_i, catS_r, catS_l, Nat.reduceLeDiff, j1eq1, n21, jt0, jt1, Bool.false_eq_true, Classical.not_not, true_or, or_true, false_or, or_false, true_imp_iff, false_imp_iff, not_true_eq_false, not_false_eq_true, jif0, jif1, jifb, ltT, ltF, leT, leF, eqT, eqF, jlt, jle, jeq, jlt0, jle0, jeq0, jge0, jgt0, jinB, jnat, clt, cle, ceq, cgt, cge, lI_add, lI_sub, lI_mul, jadd, jsub, jmul, jneg, jtol, b010, b011, pv_2t, Int.toNat_natCast, Option.some.injEq, exists_eq_left', if_true, if_false, M, A, fk]
    refine PW.ss (r := []) rfl (le_b rfl) rfl rfl (le_b rfl) (le_b rfl) ?_
    refine t_M_isIn (by constructor <;> omega) (by constructor <;> omega) (by constructor <;> omega) ⟨rfl, ⟨rfl, rfl⟩, ?_⟩
    by_cases c2 : 1 ≤ F k ∧ F k ≤ 8
    · rw [if_pos c2]
      rw [if_pos ⟨c, by omega, c2.2⟩] at hq
      refine vs_ok 3 ?_
      rw [show ((gRes 241).drop 11).take 3 = [.ifCond .eq 14, .iconst 1, .goto 15] from rfl]
      simp (disch := omega) only [vs_iconst, vs_goto, vs_ifCond, vs_nil, gv_0, gv_1, gv_2, gv_3, pv_0, pv_1, va_rf_s, Nat.reduceDiv, Nat.reduceMod, Nat.reduceAdd, Nat.reduceMul, Int.reduceToNat, true_and, and_true, and_self, cP_eq, cP_ne, cP_lt, cP_ge, cP_gt, cP_le, eL_i, eL_l, eL_r, eL_n, Option.toList_none, Option.toList_some, List.nil_append, List.cons_append, kkI, llI, nnI, rrI, jjI, kkJ, llJ, nnJ, rrJ, iiJ, zIIs, zJJs, nEF, nET, and_false, false_and, jmin, jmax, catS_n, catS_i, catS_r, catS_l, Nat.reduceLeDiff, j1eq1, n21, jt0, jt1, Bool.false_eq_true, Classical.not_not, true_or, or_true, false_or, or_false, true_imp_iff, false_imp_iff, not_true_eq_false, not_false_eq_true, jif0, jif1, jifb, ltT, ltF, leT, leF, eqT, eqF, jlt, jle, jeq, jlt0, jle0, jeq0, jge0, jgt0, jinB, jnat, clt, cle, ceq, cgt, cge, lI_add, lI_sub, lI_mul, jadd, jsub, jmul, jneg, jtol, b010, b011, pv_2t, Int.toNat_natCast, Option.some.injEq, exists_eq_left', if_true, if_false]
      refine vs_ok 1 ?_
      rw [show ((gRes 241).drop 15).take 1 = [.ireturn] from rfl]
      simp (disch := omega) only [vs_ireturn, vs_nil, gv_0, gv_1, gv_2, gv_3, pv_0, pv_1, va_rf_s, Nat.reduceDiv, Nat.reduceMod, Nat.reduceAdd, Nat.reduceMul, Int.reduceToNat, true_and, and_true, and_self, cP_eq, cP_ne, cP_lt, cP_ge, cP_gt, cP_le, eL_i, eL_l, eL_r, eL_n, Option.toList_none, Option.toList_some, List.nil_append, List.cons_append, kkI, llI, nnI, rrI, jjI, kkJ, llJ, nnJ, rrJ, iiJ, zIIs, zJJs, nEF, nET, and_false, false_and, jmin, jmax, catS_n, catS_i, catS_r, catS_l, Nat.reduceLeDiff, j1eq1, n21, jt0, jt1, Bool.false_eq_true, Classical.not_not, true_or, or_true, false_or, or_false, true_imp_iff, false_imp_iff, not_true_eq_false, not_false_eq_true, jif0, jif1, jifb, ltT, ltF, leT, leF, eqT, eqF, jlt, jle, jeq, jlt0, jle0, jeq0, jge0, jgt0, jinB, jnat, clt, cle, ceq, cgt, cge, lI_add, lI_sub, lI_mul, jadd, jsub, jmul, jneg, jtol, b010, b011, pv_2t, Int.toNat_natCast, Option.some.injEq, exists_eq_left', if_true, if_false, show gRc 241 = 2 from rfl]
      exact hq
    · rw [if_neg c2]
      rw [if_neg (by omega)] at hq
      refine vs_ok 1 ?_
      rw [show ((gRes 241).drop 11).take 1 = [.ifCond .eq 14] from rfl]
      simp (disch := omega) only [vs_ifCond, vs_nil, gv_0, gv_1, gv_2, gv_3, pv_0, pv_1, va_rf_s, Nat.reduceDiv, Nat.reduceMod, Nat.reduceAdd, Nat.reduceMul, Int.reduceToNat, true_and, and_true, and_self, cP_eq, cP_ne, cP_lt, cP_ge, cP_gt, cP_le, eL_i, eL_l, eL_r, eL_n, Option.toList_none, Option.toList_some, List.nil_append, List.cons_append, kkI, llI, nnI, rrI, jjI, kkJ, llJ, nnJ, rrJ, iiJ, zIIs, zJJs, nEF, nET, and_false, false_and, jmin, jmax, catS_n, catS_i, catS_r, catS_l, Nat.reduceLeDiff, j1eq1, n21, jt0, jt1, Bool.false_eq_true, Classical.not_not, true_or, or_true, false_or, or_false, true_imp_iff, false_imp_iff, not_true_eq_false, not_false_eq_true, jif0, jif1, jifb, ltT, ltF, leT, leF, eqT, eqF, jlt, jle, jeq, jlt0, jle0, jeq0, jge0, jgt0, jinB, jnat, clt, cle, ceq, cgt, cge, lI_add, lI_sub, lI_mul, jadd, jsub, jmul, jneg, jtol, b010, b011, pv_2t, Int.toNat_natCast, Option.some.injEq, exists_eq_left', if_true, if_false]
      refine vs_ok 2 ?_
      rw [show ((gRes 241).drop 14).take 2 = [.iconst 0, .ireturn] from rfl]
      simp (disch := omega) only [vs_iconst, vs_ireturn, vs_nil, gv_0, gv_1, gv_2, gv_3, pv_0, pv_1, va_rf_s, Nat.reduceDiv, Nat.reduceMod, Nat.reduceAdd, Nat.reduceMul, Int.reduceToNat, true_and, and_true, and_self, cP_eq, cP_ne, cP_lt, cP_ge, cP_gt, cP_le, eL_i, eL_l, eL_r, eL_n, Option.toList_none, Option.toList_some, List.nil_append, List.cons_append, kkI, llI, nnI, rrI, jjI, kkJ, llJ, nnJ, rrJ, iiJ, zIIs, zJJs, nEF, nET, and_false, false_and, jmin, jmax, catS_n, catS_i, catS_r, catS_l, Nat.reduceLeDiff, j1eq1, n21, jt0, jt1, Bool.false_eq_true, Classical.not_not, true_or, or_true, false_or, or_false, true_imp_iff, false_imp_iff, not_true_eq_false, not_false_eq_true, jif0, jif1, jifb, ltT, ltF, leT, leF, eqT, eqF, jlt, jle, jeq, jlt0, jle0, jeq0, jge0, jgt0, jinB, jnat, clt, cle, ceq, cgt, cge, lI_add, lI_sub, lI_mul, jadd, jsub, jmul, jneg, jtol, b010, b011, pv_2t, Int.toNat_natCast, Option.some.injEq, exists_eq_left', if_true, if_false, show gRc 241 = 2 from rfl]
      exact hq
  · rw [if_neg c]
    rw [if_neg fun z => c z.1] at hq
    refine vs_ok 1 ?_
    rw [show ((gRes 241).drop 3).take 1 = [.ifCond .eq 14] from rfl]
    simp (disch := omega) only [vs_ifCond, vs_nil, gv_0, gv_1, gv_2, gv_3, pv_0, pv_1, va_rf_s, Nat.reduceDiv, Nat.reduceMod, Nat.reduceAdd, Nat.reduceMul, Int.reduceToNat, true_and, and_true, and_self, cP_eq, cP_ne, cP_lt, cP_ge, cP_gt, cP_le, eL_i, eL_l, eL_r, eL_n, Option.toList_none, Option.toList_some, List.nil_append, List.cons_append, kkI, llI, nnI, rrI, jjI, kkJ, llJ, nnJ, rrJ, iiJ, zIIs, zJJs, nEF, nET, and_false, false_and, jmin, jmax, catS_n, catS_i, catS_r, catS_l, Nat.reduceLeDiff, j1eq1, n21, jt0, jt1, Bool.false_eq_true, Classical.not_not, true_or, or_true, false_or, or_false, true_imp_iff, false_imp_iff, not_true_eq_false, not_false_eq_true, jif0, jif1, jifb, ltT, ltF, leT, leF, eqT, eqF, jlt, jle, jeq, jlt0, jle0, jeq0, jge0, jgt0, jinB, jnat, clt, cle, ceq, cgt, cge, lI_add, lI_sub, lI_mul, jadd, jsub, jmul, jneg, jtol, b010, b011, pv_2t, Int.toNat_natCast, Option.some.injEq, exists_eq_left', if_true, if_false]
    refine vs_ok 2 ?_
    rw [show ((gRes 241).drop 14).take 2 = [.iconst 0, .ireturn] from rfl]
    simp (disch := omega) only [vs_iconst, vs_ireturn, vs_nil, gv_0, gv_1, gv_2, gv_3, pv_0, pv_1, va_rf_s, Nat.reduceDiv, Nat.reduceMod, Nat.reduceAdd, Nat.reduceMul, Int.reduceToNat, true_and, and_true, and_self, cP_eq, cP_ne, cP_lt, cP_ge, cP_gt, cP_le, eL_i, eL_l, eL_r, eL_n, Option.toList_none, Option.toList_some, List.nil_append, List.cons_append, kkI, llI, nnI, rrI, jjI, kkJ, llJ, nnJ, rrJ, iiJ, zIIs, zJJs, nEF, nET, and_false, false_and, jmin, jmax, catS_n, catS_i, catS_r, catS_l, Nat.reduceLeDiff, j1eq1, n21, jt0, jt1, Bool.false_eq_true, Classical.not_not, true_or, or_true, false_or, or_false, true_imp_iff, false_imp_iff, not_true_eq_false, not_false_eq_true, jif0, jif1, jifb, ltT, ltF, leT, leF, eqT, eqF, jlt, jle, jeq, jlt0, jle0, jeq0, jge0, jgt0, jinB, jnat, clt, cle, ceq, cgt, cge, lI_add, lI_sub, lI_mul, jadd, jsub, jmul, jneg, jtol, b010, b011, pv_2t, Int.toNat_natCast, Option.some.injEq, exists_eq_left', if_true, if_false, show gRc 241 = 2 from rfl]
    exact hq
