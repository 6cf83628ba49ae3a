/-! the Model's sum: terms, and the whole -/
theorem t_term {D : Nat} {h0 h : Hp} {m sz n o : Nat} {B Wd : Nat → Int} {Vn : Nat → RowVal} {s : R4} {tm : Bool} {r : PRes} {sf : Nat → R4 → Option PRes} {Q : Nat → Option Value → Hp → Prop} (S : SIMp D m sz n B Wd Vn h0 Q sf) (x : suG h m sz n B Wd Vn s tm) (ho : o ≤ 10) (c0 : suC 0 h0 h m) (hr : tmS B sz Wd n Vn sf o s = some r) (ht : zI h (m + 11) o = iI 0) (bd : BDk h0 m Q r)
    (gd : r.1 = true → ∀ g tm' k v, teC o h g m → suG g m sz n B Wd Vn r.2.2.2.1 tm' → zI g (m + 11) o = iI (k : Nat) → k ≤ 6 → slO g m 24 v tm' → tmV k v = r.2.2.2.2 → tm' = (tm || v.isNone) → ATp D m (zN h0) 2 o Q g) : HDp D m o Q h := by
  unfold tmS at hr
  by_cases q3 : s.2.1 = 3
  · rw [if_neg (fun z => z q3)] at hr
    have M := x.m.k
    have hk3 := x.2.1.2.2.1
    refine t_hd1 x fun nu l6 hnu hnv => ?_
    obtain ⟨tk, h17, htk, e2, e0⟩ := x.tk
    have nv := hnv q3
    rw [if_neg (show ¬ sgP s 40 from fun z => by have := z.1; omega), if_neg (show ¬ (s.2.1 = 2 ∧ prW s.2.2.1) from fun z => by omega)]
    refine vs_ok 4 ?_
    rw [show ((gRes 210).drop 49).take 4 = [.aload 0, .getfield 12170, .iconst 2, .if_icmp .ne 99] from rfl]
    simp (disch := omega) only [vs_iconst, vs_if_icmp, vs_getfield, vs_aload0, vs_nil, gv_0, gv_1, gv_2, gv_3, pv_0, pv_1, va_rf_s, Nat.reduceDiv, Nat.reduceMod, Nat.reduceAdd, Nat.reduceMul, Int.reduceToNat, true_and, and_true, and_self, cP_eq, cP_ne, cP_lt, cP_ge, cP_gt, cP_le, eL_i, eL_l, eL_r, eL_n, Option.toList_none, Option.toList_some, List.nil_append, List.cons_append, kkI, llI, nnI, rrI, jjI, kkJ, llJ, nnJ, rrJ, iiJ, zIIs, zJJs, nEF, nET, and_false, false_and, jmin, jmax, catS_n, catS_i, catS_r, catS_l, Nat.reduceLeDiff, j1eq1, n21, jt0, jt1, Bool.false_eq_true, Classical.not_not, true_or, or_true, false_or, or_false, true_imp_iff, false_imp_iff, not_true_eq_false, not_false_eq_true, jif0, jif1, jifb, ltT, ltF, leT, leF, eqT, eqF, jlt, jle, jeq, jlt0, jle0, jeq0, jge0, jgt0, jinB, jnat, clt, cle, ceq, cgt, cge, lI_add, lI_sub, lI_mul, jadd, jsub, jmul, jneg, jtol, b010, b011, pv_2t, Int.toNat_natCast, Option.some.injEq, exists_eq_left', if_true, if_false, M, h17]
    refine vs_ok 1 ?_
    rw [show ((gRes 210).drop 53).take 1 = [.aload 0] from rfl]
    simp (disch := omega) only [vs_aload0, vs_nil, gv_0, gv_1, gv_2, gv_3, pv_0, pv_1, va_rf_s, Nat.reduceDiv, Nat.reduceMod, Nat.reduceAdd, Nat.reduceMul, Int.reduceToNat, true_and, and_true, and_self, cP_eq, cP_ne, cP_lt, cP_ge, cP_gt, cP_le, eL_i, eL_l, eL_r, eL_n, Option.toList_none, Option.toList_some, List.nil_append, List.cons_append, kkI, llI, nnI, rrI, jjI, kkJ, llJ, nnJ, rrJ, iiJ, zIIs, zJJs, nEF, nET, and_false, false_and, jmin, jmax, catS_n, catS_i, catS_r, catS_l, Nat.reduceLeDiff, j1eq1, n21, jt0, jt1, Bool.false_eq_true, Classical.not_not, true_or, or_true, false_or, or_false, true_imp_iff, false_imp_iff, not_true_eq_false, not_false_eq_true, jif0, jif1, jifb, ltT, ltF, leT, leF, eqT, eqF, jlt, jle, jeq, jlt0, jle0, jeq0, jge0, jgt0, jinB, jnat, clt, cle, ceq, cgt, cge, lI_add, lI_sub, lI_mul, jadd, jsub, jmul, jneg, jtol, b010, b011, pv_2t, Int.toNat_natCast, Option.some.injEq, exists_eq_left', if_true, if_false]
    refine PW.iv rfl rfl rfl M.1 M.2 (le_b rfl) (le_b rfl) ?_
    refine t_nxt x fun g1 c1 x1 => ⟨rfl, ⟨c1.1.1.2.2.1, rfl⟩, ?_⟩
    have M1 := x1.m.k
    have A := x1.m.times
    have t1 : zI g1 (m + 11) o = iI 0 := by rw [c1.1.1.2.2.2.2.2.1 (m + 11) (by omega)]; exact ht
    have te := (c1.su (o := o + 1)).te ho
    refine vs_ok 5 ?_
    rw [show ((gRes 210).drop 55).take 5 = [.aload 0, .getfield 12152, .iload 1, .iaload, .ifCond .ne 66] from rfl]
    simp (disch := omega) only [vs_ifCond, vs_getfield, vs_iaload, vs_aload0, vs_iload1, vs_nil, gv_0, gv_1, gv_2, gv_3, pv_0, pv_1, va_rf_s, Nat.reduceDiv, Nat.reduceMod, Nat.reduceAdd, Nat.reduceMul, Int.reduceToNat, true_and, and_true, and_self, cP_eq, cP_ne, cP_lt, cP_ge, cP_gt, cP_le, eL_i, eL_l, eL_r, eL_n, Option.toList_none, Option.toList_some, List.nil_append, List.cons_append, kkI, llI, nnI, rrI, jjI, kkJ, llJ, nnJ, rrJ, iiJ, zIIs, zJJs, nEF, nET, and_false, false_and, jmin, jmax, catS_n, catS_i, catS_r, catS_l, Nat.reduceLeDiff, j1eq1, n21, jt0, jt1, Bool.false_eq_true, Classical.not_not, true_or, or_true, false_or, or_false, true_imp_iff, false_imp_iff, not_true_eq_false, not_false_eq_true, jif0, jif1, jifb, ltT, ltF, leT, leF, eqT, eqF, jlt, jle, jeq, jlt0, jle0, jeq0, jge0, jgt0, jinB, jnat, clt, cle, ceq, cgt, cge, lI_add, lI_sub, lI_mul, jadd, jsub, jmul, jneg, jtol, b010, b011, pv_2t, Int.toNat_natCast, Option.some.injEq, exists_eq_left', if_true, if_false, M1, A, t1]
    refine vs_ok 2 ?_
    rw [show ((gRes 210).drop 60).take 2 = [.aload 0, .jsr_w 28518] from rfl]
    simp (disch := omega) only [vs_jsr_w, vs_aload0, vs_nil, gv_0, gv_1, gv_2, gv_3, pv_0, pv_1, va_rf_s, Nat.reduceDiv, Nat.reduceMod, Nat.reduceAdd, Nat.reduceMul, Int.reduceToNat, true_and, and_true, and_self, cP_eq, cP_ne, cP_lt, cP_ge, cP_gt, cP_le, eL_i, eL_l, eL_r, eL_n, Option.toList_none, Option.toList_some, List.nil_append, List.cons_append, kkI, llI, nnI, rrI, jjI, kkJ, llJ, nnJ, rrJ, iiJ, zIIs, zJJs, nEF, nET, and_false, false_and, jmin, jmax, catS_n, catS_i, catS_r, catS_l, Nat.reduceLeDiff, j1eq1, n21, jt0, jt1, Bool.false_eq_true, Classical.not_not, true_or, or_true, false_or, or_false, true_imp_iff, false_imp_iff, not_true_eq_false, not_false_eq_true, jif0, jif1, jifb, ltT, ltF, leT, leF, eqT, eqF, jlt, jle, jeq, jlt0, jle0, jeq0, jge0, jgt0, jinB, jnat, clt, cle, ceq, cgt, cge, lI_add, lI_sub, lI_mul, jadd, jsub, jmul, jneg, jtol, b010, b011, pv_2t, Int.toNat_natCast, Option.some.injEq, exists_eq_left', if_true, if_false]
    refine PW.iv rfl rfl rfl M1.1 M1.2 (le_b rfl) (le_b rfl) ?_
    refine t_wrd x1.1 x1.2.1 (w := 411) (by omega) rfl ⟨rfl, ⟨rfl, rfl⟩, ?_⟩
    by_cases qo : wrP (nx B sz s) 411
    · rw [if_neg (fun z => z qo)] at hr
      rw [if_pos qo]
      refine vs_ok 1 ?_
      rw [show ((gRes 210).drop 63).take 1 = [.ifCond .eq 66] from rfl]
      simp (disch := omega) only [vs_ifCond, vs_nil, gv_0, gv_1, gv_2, gv_3, pv_0, pv_1, va_rf_s, Nat.reduceDiv, Nat.reduceMod, Nat.reduceAdd, Nat.reduceMul, Int.reduceToNat, true_and, and_true, and_self, cP_eq, cP_ne, cP_lt, cP_ge, cP_gt, cP_le, eL_i, eL_l, eL_r, eL_n, Option.toList_none, Option.toList_some, List.nil_append, List.cons_append, kkI, llI, nnI, rrI, jjI, kkJ, llJ, nnJ, rrJ, iiJ, zIIs, zJJs, nEF, nET, and_false, false_and, jmin, jmax, catS_n, catS_i, catS_r, catS_l, Nat.reduceLeDiff, j1eq1, n21, jt0, jt1, Bool.false_eq_true, Classical.not_not, true_or, or_true, false_or, or_false, true_imp_iff, false_imp_iff, not_true_eq_false, not_false_eq_true, jif0, jif1, jifb, ltT, ltF, leT, leF, eqT, eqF, jlt, jle, jeq, jlt0, jle0, jeq0, jge0, jgt0, jinB, jnat, clt, cle, ceq, cgt, cge, lI_add, lI_sub, lI_mul, jadd, jsub, jmul, jneg, jtol, b010, b011, pv_2t, Int.toNat_natCast, Option.some.injEq, exists_eq_left', if_true, if_false]
      refine vs_ok 2 ?_
      rw [show ((gRes 210).drop 64).take 2 = [.iconst 1, .goto 67] from rfl]
      simp (disch := omega) only [vs_iconst, vs_goto, vs_nil, gv_0, gv_1, gv_2, gv_3, pv_0, pv_1, va_rf_s, Nat.reduceDiv, Nat.reduceMod, Nat.reduceAdd, Nat.reduceMul, Int.reduceToNat, true_and, and_true, and_self, cP_eq, cP_ne, cP_lt, cP_ge, cP_gt, cP_le, eL_i, eL_l, eL_r, eL_n, Option.toList_none, Option.toList_some, List.nil_append, List.cons_append, kkI, llI, nnI, rrI, jjI, kkJ, llJ, nnJ, rrJ, iiJ, zIIs, zJJs, nEF, nET, and_false, false_and, jmin, jmax, catS_n, catS_i, catS_r, catS_l, Nat.reduceLeDiff, j1eq1, n21, jt0, jt1, Bool.false_eq_true, Classical.not_not, true_or, or_true, false_or, or_false, true_imp_iff, false_imp_iff, not_true_eq_false, not_false_eq_true, jif0, jif1, jifb, ltT, ltF, leT, leF, eqT, eqF, jlt, jle, jeq, jlt0, jle0, jeq0, jge0, jgt0, jinB, jnat, clt, cle, ceq, cgt, cge, lI_add, lI_sub, lI_mul, jadd, jsub, jmul, jneg, jtol, b010, b011, pv_2t, Int.toNat_natCast, Option.some.injEq, exists_eq_left', if_true, if_false]
      refine vs_ok 3 ?_
      rw [show ((gRes 210).drop 67).take 3 = [.istore 6, .iload 6, .ifCond .eq 76] from rfl]
      simp (disch := omega) only [vs_ifCond, vs_iload6, vs_istore6n, vs_istore6i, vs_istore6r, vs_istore6l, vs_nil, gv_0, gv_1, gv_2, gv_3, pv_0, pv_1, va_rf_s, Nat.reduceDiv, Nat.reduceMod, Nat.reduceAdd, Nat.reduceMul, Int.reduceToNat, true_and, and_true, and_self, cP_eq, cP_ne, cP_lt, cP_ge, cP_gt, cP_le, eL_i, eL_l, eL_r, eL_n, Option.toList_none, Option.toList_some, List.nil_append, List.cons_append, kkI, llI, nnI, rrI, jjI, kkJ, llJ, nnJ, rrJ, iiJ, zIIs, zJJs, nEF, nET, and_false, false_and, jmin, jmax, catS_n, catS_i, catS_r, catS_l, Nat.reduceLeDiff, j1eq1, n21, jt0, jt1, Bool.false_eq_true, Classical.not_not, true_or, or_true, false_or, or_false, true_imp_iff, false_imp_iff, not_true_eq_false, not_false_eq_true, jif0, jif1, jifb, ltT, ltF, leT, leF, eqT, eqF, jlt, jle, jeq, jlt0, jle0, jeq0, jge0, jgt0, jinB, jnat, clt, cle, ceq, cgt, cge, lI_add, lI_sub, lI_mul, jadd, jsub, jmul, jneg, jtol, b010, b011, pv_2t, Int.toNat_natCast, Option.some.injEq, exists_eq_left', if_true, if_false]
      refine vs_ok 3 ?_
      rw [show ((gRes 210).drop 70).take 3 = [.iload 3, .iconst 1, .iconst 6] from rfl]
      simp (disch := omega) only [vs_iconst, vs_iload3, vs_nil, gv_0, gv_1, gv_2, gv_3, pv_0, pv_1, va_rf_s, Nat.reduceDiv, Nat.reduceMod, Nat.reduceAdd, Nat.reduceMul, Int.reduceToNat, true_and, and_true, and_self, cP_eq, cP_ne, cP_lt, cP_ge, cP_gt, cP_le, eL_i, eL_l, eL_r, eL_n, Option.toList_none, Option.toList_some, List.nil_append, List.cons_append, kkI, llI, nnI, rrI, jjI, kkJ, llJ, nnJ, rrJ, iiJ, zIIs, zJJs, nEF, nET, and_false, false_and, jmin, jmax, catS_n, catS_i, catS_r, catS_l, Nat.reduceLeDiff, j1eq1, n21, jt0, jt1, Bool.false_eq_true, Classical.not_not, true_or, or_true, false_or, or_false, true_imp_iff, false_imp_iff, not_true_eq_false, not_false_eq_true, jif0, jif1, jifb, ltT, ltF, leT, leF, eqT, eqF, jlt, jle, jeq, jlt0, jle0, jeq0, jge0, jgt0, jinB, jnat, clt, cle, ceq, cgt, cge, lI_add, lI_sub, lI_mul, jadd, jsub, jmul, jneg, jtol, b010, b011, pv_2t, Int.toNat_natCast, Option.some.injEq, exists_eq_left', if_true, if_false]
      refine PW.ss (r := []) rfl (le_b rfl) rfl rfl (le_b rfl) (le_b rfl) ?_
      refine t_M_isIn (by constructor <;> omega) (by constructor <;> omega) (by constructor <;> omega) ⟨rfl, ⟨rfl, rfl⟩, ?_⟩
      by_cases c : s.2.2.1 < 1 ∨ 6 < s.2.2.1
      · rw [if_pos c] at hr
        rw [if_neg (by omega)]
        have hr : r = (false, 2, s.2.2.2, nx B sz s, none) := by simpa [flR] using hr.symm
        refine vs_ok 1 ?_
        rw [show ((gRes 210).drop 74).take 1 = [.ifCond .ne 84] from rfl]
        simp (disch := omega) only [vs_ifCond, vs_nil, gv_0, gv_1, gv_2, gv_3, pv_0, pv_1, va_rf_s, Nat.reduceDiv, Nat.reduceMod, Nat.reduceAdd, Nat.reduceMul, Int.reduceToNat, true_and, and_true, and_self, cP_eq, cP_ne, cP_lt, cP_ge, cP_gt, cP_le, eL_i, eL_l, eL_r, eL_n, Option.toList_none, Option.toList_some, List.nil_append, List.cons_append, kkI, llI, nnI, rrI, jjI, kkJ, llJ, nnJ, rrJ, iiJ, zIIs, zJJs, nEF, nET, and_false, false_and, jmin, jmax, catS_n, catS_i, catS_r, catS_l, Nat.reduceLeDiff, j1eq1, n21, jt0, jt1, Bool.false_eq_true, Classical.not_not, true_or, or_true, false_or, or_false, true_imp_iff, false_imp_iff, not_true_eq_false, not_false_eq_true, jif0, jif1, jifb, ltT, ltF, leT, leF, eqT, eqF, jlt, jle, jeq, jlt0, jle0, jeq0, jge0, jgt0, jinB, jnat, clt, cle, ceq, cgt, cge, lI_add, lI_sub, lI_mul, jadd, jsub, jmul, jneg, jtol, b010, b011, pv_2t, Int.toNat_natCast, Option.some.injEq, exists_eq_left', if_true, if_false]
        refine vs_ok 1 ?_
        rw [show ((gRes 210).drop 75).take 1 = [.goto 79] from rfl]
        simp (disch := omega) only [vs_goto, vs_nil, gv_0, gv_1, gv_2, gv_3, pv_0, pv_1, va_rf_s, Nat.reduceDiv, Nat.reduceMod, Nat.reduceAdd, Nat.reduceMul, Int.reduceToNat, true_and, and_true, and_self, cP_eq, cP_ne, cP_lt, cP_ge, cP_gt, cP_le, eL_i, eL_l, eL_r, eL_n, Option.toList_none, Option.toList_some, List.nil_append, List.cons_append, kkI, llI, nnI, rrI, jjI, kkJ, llJ, nnJ, rrJ, iiJ, zIIs, zJJs, nEF, nET, and_false, false_and, jmin, jmax, catS_n, catS_i, catS_r, catS_l, Nat.reduceLeDiff, j1eq1, n21, jt0, jt1, Bool.false_eq_true, Classical.not_not, true_or, or_true, false_or, or_false, true_imp_iff, false_imp_iff, not_true_eq_false, not_false_eq_true, jif0, jif1, jifb, ltT, ltF, leT, leF, eqT, eqF, jlt, jle, jeq, jlt0, jle0, jeq0, jge0, jgt0, jinB, jnat, clt, cle, ceq, cgt, cge, lI_add, lI_sub, lI_mul, jadd, jsub, jmul, jneg, jtol, b010, b011, pv_2t, Int.toNat_natCast, Option.some.injEq, exists_eq_left', if_true, if_false]
        refine vs_ok 3 ?_
        rw [show ((gRes 210).drop 79).take 3 = [.aload 0, .iconst 2, .iload 2] from rfl]
        simp (disch := omega) only [vs_iconst, vs_aload0, vs_iload2, vs_nil, gv_0, gv_1, gv_2, gv_3, pv_0, pv_1, va_rf_s, Nat.reduceDiv, Nat.reduceMod, Nat.reduceAdd, Nat.reduceMul, Int.reduceToNat, true_and, and_true, and_self, cP_eq, cP_ne, cP_lt, cP_ge, cP_gt, cP_le, eL_i, eL_l, eL_r, eL_n, Option.toList_none, Option.toList_some, List.nil_append, List.cons_append, kkI, llI, nnI, rrI, jjI, kkJ, llJ, nnJ, rrJ, iiJ, zIIs, zJJs, nEF, nET, and_false, false_and, jmin, jmax, catS_n, catS_i, catS_r, catS_l, Nat.reduceLeDiff, j1eq1, n21, jt0, jt1, Bool.false_eq_true, Classical.not_not, true_or, or_true, false_or, or_false, true_imp_iff, false_imp_iff, not_true_eq_false, not_false_eq_true, jif0, jif1, jifb, ltT, ltF, leT, leF, eqT, eqF, jlt, jle, jeq, jlt0, jle0, jeq0, jge0, jgt0, jinB, jnat, clt, cle, ceq, cgt, cge, lI_add, lI_sub, lI_mul, jadd, jsub, jmul, jneg, jtol, b010, b011, pv_2t, Int.toNat_natCast, Option.some.injEq, exists_eq_left', if_true, if_false]
        refine PW.iv rfl rfl rfl M1.1 M1.2 (le_b rfl) (le_b rfl) ?_
        refine t_badAt x1 fun g f => ⟨rfl, ⟨f.1.n, rfl⟩, ?_⟩
        refine vs_ok 1 ?_
        rw [show ((gRes 210).drop 83).take 1 = [.ireturn] from rfl]
        simp (disch := omega) only [vs_ireturn, vs_nil, gv_0, gv_1, gv_2, gv_3, pv_0, pv_1, va_rf_s, Nat.reduceDiv, Nat.reduceMod, Nat.reduceAdd, Nat.reduceMul, Int.reduceToNat, true_and, and_true, and_self, cP_eq, cP_ne, cP_lt, cP_ge, cP_gt, cP_le, eL_i, eL_l, eL_r, eL_n, Option.toList_none, Option.toList_some, List.nil_append, List.cons_append, kkI, llI, nnI, rrI, jjI, kkJ, llJ, nnJ, rrJ, iiJ, zIIs, zJJs, nEF, nET, and_false, false_and, jmin, jmax, catS_n, catS_i, catS_r, catS_l, Nat.reduceLeDiff, j1eq1, n21, jt0, jt1, Bool.false_eq_true, Classical.not_not, true_or, or_true, false_or, or_false, true_imp_iff, false_imp_iff, not_true_eq_false, not_false_eq_true, jif0, jif1, jifb, ltT, ltF, leT, leF, eqT, eqF, jlt, jle, jeq, jlt0, jle0, jeq0, jge0, jgt0, jinB, jnat, clt, cle, ceq, cgt, cge, lI_add, lI_sub, lI_mul, jadd, jsub, jmul, jneg, jtol, b010, b011, pv_2t, Int.toNat_natCast, Option.some.injEq, exists_eq_left', if_true, if_false, show gRc 210 = 2 from rfl]
        rw [hr] at bd
        exact bd rfl g (f.tr (c0.tr c1.su))
      · rw [if_neg c] at hr
        rw [if_pos (by omega)]
        obtain ⟨q, eq, hq⟩ := bnd_some hr
        obtain ⟨k, ek⟩ : ∃ k : Nat, nu = k := ⟨nu.toNat, by omega⟩
        refine vs_ok 1 ?_
        rw [show ((gRes 210).drop 74).take 1 = [.ifCond .ne 84] from rfl]
        simp (disch := omega) only [vs_ifCond, vs_nil, gv_0, gv_1, gv_2, gv_3, pv_0, pv_1, va_rf_s, Nat.reduceDiv, Nat.reduceMod, Nat.reduceAdd, Nat.reduceMul, Int.reduceToNat, true_and, and_true, and_self, cP_eq, cP_ne, cP_lt, cP_ge, cP_gt, cP_le, eL_i, eL_l, eL_r, eL_n, Option.toList_none, Option.toList_some, List.nil_append, List.cons_append, kkI, llI, nnI, rrI, jjI, kkJ, llJ, nnJ, rrJ, iiJ, zIIs, zJJs, nEF, nET, and_false, false_and, jmin, jmax, catS_n, catS_i, catS_r, catS_l, Nat.reduceLeDiff, j1eq1, n21, jt0, jt1, Bool.false_eq_true, Classical.not_not, true_or, or_true, false_or, or_false, true_imp_iff, false_imp_iff, not_true_eq_false, not_false_eq_true, jif0, jif1, jifb, ltT, ltF, leT, leF, eqT, eqF, jlt, jle, jeq, jlt0, jle0, jeq0, jge0, jgt0, jinB, jnat, clt, cle, ceq, cgt, cge, lI_add, lI_sub, lI_mul, jadd, jsub, jmul, jneg, jtol, b010, b011, pv_2t, Int.toNat_natCast, Option.some.injEq, exists_eq_left', if_true, if_false]
        refine vs_ok 2 ?_
        rw [show ((gRes 210).drop 84).take 2 = [.iload 6, .ifCond .eq 94] from rfl]
        simp (disch := omega) only [vs_ifCond, vs_iload6, vs_nil, gv_0, gv_1, gv_2, gv_3, pv_0, pv_1, va_rf_s, Nat.reduceDiv, Nat.reduceMod, Nat.reduceAdd, Nat.reduceMul, Int.reduceToNat, true_and, and_true, and_self, cP_eq, cP_ne, cP_lt, cP_ge, cP_gt, cP_le, eL_i, eL_l, eL_r, eL_n, Option.toList_none, Option.toList_some, List.nil_append, List.cons_append, kkI, llI, nnI, rrI, jjI, kkJ, llJ, nnJ, rrJ, iiJ, zIIs, zJJs, nEF, nET, and_false, false_and, jmin, jmax, catS_n, catS_i, catS_r, catS_l, Nat.reduceLeDiff, j1eq1, n21, jt0, jt1, Bool.false_eq_true, Classical.not_not, true_or, or_true, false_or, or_false, true_imp_iff, false_imp_iff, not_true_eq_false, not_false_eq_true, jif0, jif1, jifb, ltT, ltF, leT, leF, eqT, eqF, jlt, jle, jeq, jlt0, jle0, jeq0, jge0, jgt0, jinB, jnat, clt, cle, ceq, cgt, cge, lI_add, lI_sub, lI_mul, jadd, jsub, jmul, jneg, jtol, b010, b011, pv_2t, Int.toNat_natCast, Option.some.injEq, exists_eq_left', if_true, if_false]
        refine vs_ok 5 ?_
        rw [show ((gRes 210).drop 86).take 5 = [.aload 0, .getfield 12152, .iload 1, .iload 3, .iastore] from rfl]
        simp (disch := omega) only [vs_getfield, vs_iastore, vs_aload0, vs_iload1, vs_iload3, vs_nil, gv_0, gv_1, gv_2, gv_3, pv_0, pv_1, va_rf_s, Nat.reduceDiv, Nat.reduceMod, Nat.reduceAdd, Nat.reduceMul, Int.reduceToNat, true_and, and_true, and_self, cP_eq, cP_ne, cP_lt, cP_ge, cP_gt, cP_le, eL_i, eL_l, eL_r, eL_n, Option.toList_none, Option.toList_some, List.nil_append, List.cons_append, kkI, llI, nnI, rrI, jjI, kkJ, llJ, nnJ, rrJ, iiJ, zIIs, zJJs, nEF, nET, and_false, false_and, jmin, jmax, catS_n, catS_i, catS_r, catS_l, Nat.reduceLeDiff, j1eq1, n21, jt0, jt1, Bool.false_eq_true, Classical.not_not, true_or, or_true, false_or, or_false, true_imp_iff, false_imp_iff, not_true_eq_false, not_false_eq_true, jif0, jif1, jifb, ltT, ltF, leT, leF, eqT, eqF, jlt, jle, jeq, jlt0, jle0, jeq0, jge0, jgt0, jinB, jnat, clt, cle, ceq, cgt, cge, lI_add, lI_sub, lI_mul, jadd, jsub, jmul, jneg, jtol, b010, b011, pv_2t, Int.toNat_natCast, Option.some.injEq, exists_eq_left', if_true, if_false, M1, A]
        have f2 : fi (fun z => z = m + 11) g1 (zsI g1 (m + 11) o (iI nu)) := fi_I rfl
        have x2 := x1.ar f2 (by omega) rfl
        have te2 : teC o h (zsI g1 (m + 11) o (iI nu)) m := te.tr ⟨suC_I (by omega) (by omega) (by omega), by rw [zI_s, if_neg (by omega)], by rw [zI_s, if_neg (by omega)], fun W t w => w.of rfl rfl⟩
        have t2 : zI (zsI g1 (m + 11) o (iI nu)) (m + 11) o = iI nu := by rw [zI_s, if_pos ⟨rfl, rfl⟩]
        generalize zsI g1 (m + 11) o (iI nu) = g2 at *
        have M2 := x2.m.k
        refine vs_ok 1 ?_
        rw [show ((gRes 210).drop 91).take 1 = [.aload 0] from rfl]
        simp (disch := omega) only [vs_aload0, vs_nil, gv_0, gv_1, gv_2, gv_3, pv_0, pv_1, va_rf_s, Nat.reduceDiv, Nat.reduceMod, Nat.reduceAdd, Nat.reduceMul, Int.reduceToNat, true_and, and_true, and_self, cP_eq, cP_ne, cP_lt, cP_ge, cP_gt, cP_le, eL_i, eL_l, eL_r, eL_n, Option.toList_none, Option.toList_some, List.nil_append, List.cons_append, kkI, llI, nnI, rrI, jjI, kkJ, llJ, nnJ, rrJ, iiJ, zIIs, zJJs, nEF, nET, and_false, false_and, jmin, jmax, catS_n, catS_i, catS_r, catS_l, Nat.reduceLeDiff, j1eq1, n21, jt0, jt1, Bool.false_eq_true, Classical.not_not, true_or, or_true, false_or, or_false, true_imp_iff, false_imp_iff, not_true_eq_false, not_false_eq_true, jif0, jif1, jifb, ltT, ltF, leT, leF, eqT, eqF, jlt, jle, jeq, jlt0, jle0, jeq0, jge0, jgt0, jinB, jnat, clt, cle, ceq, cgt, cge, lI_add, lI_sub, lI_mul, jadd, jsub, jmul, jneg, jtol, b010, b011, pv_2t, Int.toNat_natCast, Option.some.injEq, exists_eq_left', if_true, if_false]
        refine PW.iv rfl rfl rfl M2.1 M2.2 (le_b rfl) (le_b rfl) ?_
        refine t_nxt x2 fun g3 c3 x3 => ⟨rfl, ⟨c3.1.1.2.2.1, rfl⟩, ?_⟩
        have te3 := te2.tr ((c3.su (o := o + 1)).te ho)
        refine vs_ok 1 ?_
        rw [show ((gRes 210).drop 93).take 1 = [.goto 10] from rfl]
        simp (disch := omega) only [vs_goto, vs_nil, gv_0, gv_1, gv_2, gv_3, pv_0, pv_1, va_rf_s, Nat.reduceDiv, Nat.reduceMod, Nat.reduceAdd, Nat.reduceMul, Int.reduceToNat, true_and, and_true, and_self, cP_eq, cP_ne, cP_lt, cP_ge, cP_gt, cP_le, eL_i, eL_l, eL_r, eL_n, Option.toList_none, Option.toList_some, List.nil_append, List.cons_append, kkI, llI, nnI, rrI, jjI, kkJ, llJ, nnJ, rrJ, iiJ, zIIs, zJJs, nEF, nET, and_false, false_and, jmin, jmax, catS_n, catS_i, catS_r, catS_l, Nat.reduceLeDiff, j1eq1, n21, jt0, jt1, Bool.false_eq_true, Classical.not_not, true_or, or_true, false_or, or_false, true_imp_iff, false_imp_iff, not_true_eq_false, not_false_eq_true, jif0, jif1, jifb, ltT, ltF, leT, leF, eqT, eqF, jlt, jle, jeq, jlt0, jle0, jeq0, jge0, jgt0, jinB, jnat, clt, cle, ceq, cgt, cge, lI_add, lI_sub, lI_mul, jadd, jsub, jmul, jneg, jtol, b010, b011, pv_2t, Int.toNat_natCast, Option.some.injEq, exists_eq_left', if_true, if_false]
        refine t_unit (k := k) S x3 ho (c0.tr (te3.1.up (by omega))) eq ?_ (by omega) (fun _ => by omega) ?_ ?_ _ _ _ _ _
        · rw [c3.1.1.2.2.2.2.2.1 (m + 11) (by omega), t2, ek]
        · intro z
          rcases hq with ⟨a, -⟩ | ⟨a, b⟩
          · rw [a] at z; cases z
          · rw [← b]
            exact bd (b ▸ z)
        · intro z g tm' tec xg tg vg e
          rcases hq with ⟨a, b⟩ | ⟨a, b⟩
          · have b : r = (true, 0, 0, q.2.2.2.1, rpV s.2.2.1 q.2.2.2.2) := by simpa [okR] using b.symm
            rw [b] at gd
            refine gd rfl g tm' k q.2.2.2.2 (te3.tr tec) xg tg (by omega) vg ?_ e
            show (if k = 0 then _ else rpV k q.2.2.2.2) = rpV s.2.2.1 q.2.2.2.2
            rw [if_neg (by omega), ← ek, nv]
          · rw [a] at z; cases z
    · rw [if_pos qo, ← nv] at hr
      rw [if_neg qo]
      refine vs_ok 1 ?_
      rw [show ((gRes 210).drop 63).take 1 = [.ifCond .eq 66] from rfl]
      simp (disch := omega) only [vs_ifCond, vs_nil, gv_0, gv_1, gv_2, gv_3, pv_0, pv_1, va_rf_s, Nat.reduceDiv, Nat.reduceMod, Nat.reduceAdd, Nat.reduceMul, Int.reduceToNat, true_and, and_true, and_self, cP_eq, cP_ne, cP_lt, cP_ge, cP_gt, cP_le, eL_i, eL_l, eL_r, eL_n, Option.toList_none, Option.toList_some, List.nil_append, List.cons_append, kkI, llI, nnI, rrI, jjI, kkJ, llJ, nnJ, rrJ, iiJ, zIIs, zJJs, nEF, nET, and_false, false_and, jmin, jmax, catS_n, catS_i, catS_r, catS_l, Nat.reduceLeDiff, j1eq1, n21, jt0, jt1, Bool.false_eq_true, Classical.not_not, true_or, or_true, false_or, or_false, true_imp_iff, false_imp_iff, not_true_eq_false, not_false_eq_true, jif0, jif1, jifb, ltT, ltF, leT, leF, eqT, eqF, jlt, jle, jeq, jlt0, jle0, jeq0, jge0, jgt0, jinB, jnat, clt, cle, ceq, cgt, cge, lI_add, lI_sub, lI_mul, jadd, jsub, jmul, jneg, jtol, b010, b011, pv_2t, Int.toNat_natCast, Option.some.injEq, exists_eq_left', if_true, if_false]
      refine vs_ok 4 ?_
      rw [show ((gRes 210).drop 66).take 4 = [.iconst 0, .istore 6, .iload 6, .ifCond .eq 76] from rfl]
      simp (disch := omega) only [vs_iconst, vs_ifCond, vs_iload6, vs_istore6n, vs_istore6i, vs_istore6r, vs_istore6l, vs_nil, gv_0, gv_1, gv_2, gv_3, pv_0, pv_1, va_rf_s, Nat.reduceDiv, Nat.reduceMod, Nat.reduceAdd, Nat.reduceMul, Int.reduceToNat, true_and, and_true, and_self, cP_eq, cP_ne, cP_lt, cP_ge, cP_gt, cP_le, eL_i, eL_l, eL_r, eL_n, Option.toList_none, Option.toList_some, List.nil_append, List.cons_append, kkI, llI, nnI, rrI, jjI, kkJ, llJ, nnJ, rrJ, iiJ, zIIs, zJJs, nEF, nET, and_false, false_and, jmin, jmax, catS_n, catS_i, catS_r, catS_l, Nat.reduceLeDiff, j1eq1, n21, jt0, jt1, Bool.false_eq_true, Classical.not_not, true_or, or_true, false_or, or_false, true_imp_iff, false_imp_iff, not_true_eq_false, not_false_eq_true, jif0, jif1, jifb, ltT, ltF, leT, leF, eqT, eqF, jlt, jle, jeq, jlt0, jle0, jeq0, jge0, jgt0, jinB, jnat, clt, cle, ceq, cgt, cge, lI_add, lI_sub, lI_mul, jadd, jsub, jmul, jneg, jtol, b010, b011, pv_2t, Int.toNat_natCast, Option.some.injEq, exists_eq_left', if_true, if_false]
      refine t_numb x1 (by have := x.2.1.2.2.2.2 q3; omega) (c0.tr c1.su) hr (k := 0) t1 bd fun z g tm' c xg tg vg e => gd z g tm' 0 _ (te.tr c) xg tg (by omega) vg (if_pos rfl) e
  · rw [if_pos q3] at hr
    exact t_unit (k := 0) S x ho c0 hr ht (by omega) (fun z => absurd z q3) bd fun z g tm' c xg tg vg e => gd z g tm' 0 _ c xg tg (by omega) vg (if_pos rfl) e
theorem sm_strict {B : Nat → Int} {len : Int} {Wd : Nat → Int} {nm : Nat} {Vn : Nat → RowVal} : ∀ (f o : Nat) (s : R4) (r : PRes), smS B len Wd nm Vn f (some none) o s = some r → r.1 = true → r.2.2.2.2 = none
  | 0, o, s, r, h, _ => by cases h
  | f + 1, o, s, r, h, h1 => by
    unfold smS at h
    by_cases c : sgP s 43 ∨ sgP s 45
    · rw [if_pos c] at h
      obtain ⟨q, eq, hq⟩ := bnd_some h
      rcases hq with ⟨a, b⟩ | ⟨a, b⟩
      · exact sm_strict f o _ r b h1
      · rw [b, a] at h1
        cases h1
    · rw [if_neg c] at h
      have h : r = (true, 0, 0, s, none) := by simpa [okR] using h.symm
      rw [h]
theorem or3 {t a b c : Bool} (h1 : a = true → b = true) (h2 : b = true → c = true) : (((t || a) || b) || c) = (t || c) := by
  cases a <;> cases b <;> cases c <;> cases t <;> simp_all
theorem tmV_n {k : Nat} {v : Option RowVal} (h : v.isNone = true) : (tmV k v).isNone = true := by
  have e : v = none := Option.isNone_iff_eq_none.mp h
  subst e
  unfold tmV
  split <;> rfl
theorem t_SIM {D : Nat} {h0 : Hp} {m sz n : Nat} {B Wd : Nat → Int} {Vn : Nat → RowVal} {Q : Nat → Option Value → Hp → Prop} : ∀ f : Nat, SIMp D m sz n B Wd Vn h0 Q (fun o s => smS B sz Wd n Vn f none o s) ∧
    ∀ (o : Nat) (s : R4) (v : Option RowVal) (r : PRes) (h : Hp) (tm : Bool), o ≤ 10 → smS B sz Wd n Vn f (some v) o s = some r → suC 0 h0 h m → suG h m sz n B Wd Vn s tm → slO h m (27 + o) v tm → zI h (m + 11) o = iI 0 → zI h (m + 12) o = iI 1 → BDk h0 m Q r → (r.1 = true → ∀ g tm', suC o h g m → suG g m sz n B Wd Vn r.2.2.2.1 tm' → slO g m 24 r.2.2.2.2 tm' → tm' = (tm || r.2.2.2.2.isNone) → ATp D m (zN h0) 96 o Q g) → ATp D m (zN h0) 67 o Q h := by
  intro f
  induction f with
  | zero => exact ⟨fun o s r h tm _ hr => (by cases hr), fun o s v r h tm _ hr => (by cases hr)⟩
  | succ f ih =>
    obtain ⟨ih1, ih2⟩ := ih
    refine ⟨fun o s r h tm ho hr c0 x be bd gd => ?_, fun o s v r h tm ho hr c0 x vg ht hh bd gd => ?_⟩
    · dsimp only at hr
      unfold smS at hr
      obtain ⟨q, eq, hq⟩ := bnd_some hr
      refine t_term ih1 x ho c0 eq be.2.1 ?_ ?_
      · intro z
        rcases hq with ⟨a, -⟩ | ⟨a, b⟩
        · rw [a] at z; cases z
        · rw [← b]
          exact bd (b ▸ z)
      · intro z g tm' k w te xg tg hk6 wg ew e
        rcases hq with ⟨a, b⟩ | ⟨a, b⟩
        · intro QR hQR l1 l3
          have y10 : zI g (m + 10) o = iI (if decide (sgP s 45) = true then -1 else 1) := by
            rw [te.2.1, be.2.2]
            by_cases c : sgP s 45
            · rw [if_pos c, if_pos (decide_eq_true c)]
            · rw [if_neg c, if_neg (by rw [decide_eq_false c]; decide)]
          have y12 : zI g (m + 12) o = iI (if false = true then 1 else 0) := by
            rw [te.2.2.1]
            exact be.1
          refine t_red (D := D + 1) (hs := false) (acc := none) xg ho tg hk6 y10 y12 wg (fun y => by cases y) fun g2 tm2 l3' c2 x2 e2 v2 t2 z2 => ?_
          have er : reV k (decide (sgP s 45)) false none w = if sgP s 45 then ngO q.2.2.2.2 else q.2.2.2.2 := by
            show (if decide (sgP s 45) = true then ngO (tmV k w) else tmV k w) = _
            rw [ew]
            by_cases c : sgP s 45
            · rw [if_pos c, if_pos (decide_eq_true c)]
            · rw [if_neg c, if_neg (by rw [decide_eq_false c]; decide)]
          rw [er] at e2 v2
          refine ih2 o _ _ r g2 tm2 ho b (c0.tr ((te.1.tr c2).up (by omega))) x2 v2 t2 z2 bd (fun z g3 tm3 c3 x3 v3 e3 => gd z g3 tm3 (te.1.tr (c2.tr c3)) x3 v3 ?_) QR hQR l1 l3'
          rw [e3, e2, e]
          refine or3 (fun y => ?_) (fun y => ?_)
          · have n1 : q.2.2.2.2.isNone = true := by rw [← ew]; exact tmV_n y
            have n2 : q.2.2.2.2 = none := Option.isNone_iff_eq_none.mp n1
            rw [n2]
            split <;> rfl
          · rw [Option.isNone_iff_eq_none] at y
            rw [y] at b
            rw [sm_strict _ _ _ _ b z]
            rfl
        · rw [a] at z; cases z
    · unfold smS at hr
      intro QR hQR l1 l3
      have M := x.m.k
      have A10 := x.m.signed
      by_cases c : sgP s 43 ∨ sgP s 45
      · rw [if_pos c] at hr
        obtain ⟨q, eq, hq⟩ := bnd_some hr
        have p86 : ∀ g1, g1 = zsI h (m + 10) o (iI (if sgP s 45 then -1 else 1)) → PW (D + 3) 211 86 [some (.ref m), some (.int l1), some (.int (iI o)), l3] [] g1 QR := by
          intro g1 eg1
          have f1 : fi (fun z => z = m + 10) h g1 := by rw [eg1]; exact fi_I rfl
          have x1 := x.ar f1 (by omega) (by rw [eg1]; rfl)
          have c1 : suC o h g1 m := by rw [eg1]; exact suC_I (by omega) (by omega) (by omega)
          have k1 : zI g1 (m + 10) o = iI (if sgP s 45 then -1 else 1) := by rw [eg1, zI_s, if_pos ⟨rfl, rfl⟩]
          have k2 : zI g1 (m + 11) o = iI 0 := by rw [eg1, zI_s, if_neg (by omega)]; exact ht
          have k3 : zI g1 (m + 12) o = iI 1 := by rw [eg1, zI_s, if_neg (by omega)]; exact hh
          have k4 : slO g1 m (27 + o) v tm := by rw [eg1]; exact vg.of fun W t w => w.of rfl rfl
          clear eg1
          have M1 := x1.m.k
          refine vs_ok 1 ?_
          rw [show ((gRes 211).drop 86).take 1 = [.aload 0] from rfl]
          simp (disch := omega) only [vs_aload0, vs_nil, gv_0, gv_1, gv_2, gv_3, pv_0, pv_1, va_rf_s, Nat.reduceDiv, Nat.reduceMod, Nat.reduceAdd, Nat.reduceMul, Int.reduceToNat, true_and, and_true, and_self, cP_eq, cP_ne, cP_lt, cP_ge, cP_gt, cP_le, eL_i, eL_l, eL_r, eL_n, Option.toList_none, Option.toList_some, List.nil_append, List.cons_append, kkI, llI, nnI, rrI, jjI, kkJ, llJ, nnJ, rrJ, iiJ, zIIs, zJJs, nEF, nET, and_false, false_and, jmin, jmax, catS_n, catS_i, catS_r, catS_l, Nat.reduceLeDiff, j1eq1, n21, jt0, jt1, Bool.false_eq_true, Classical.not_not, true_or, or_true, false_or, or_false, true_imp_iff, false_imp_iff, not_true_eq_false, not_false_eq_true, jif0, jif1, jifb, ltT, ltF, leT, leF, eqT, eqF, jlt, jle, jeq, jlt0, jle0, jeq0, jge0, jgt0, jinB, jnat, clt, cle, ceq, cgt, cge, lI_add, lI_sub, lI_mul, jadd, jsub, jmul, jneg, jtol, b010, b011, pv_2t, Int.toNat_natCast, Option.some.injEq, exists_eq_left', if_true, if_false]
          refine PW.iv rfl rfl rfl M1.1 M1.2 (le_b rfl) (le_b rfl) ?_
          refine t_nxt x1 fun g2 c2 x2 => ⟨rfl, ⟨c2.1.1.2.2.1, rfl⟩, ?_⟩
          have te2 := (c2.su (o := o + 1)).te ho
          refine vs_ok 2 ?_
          rw [show ((gRes 211).drop 88).take 2 = [.iload 2, .ireturn] from rfl]
          simp (disch := omega) only [vs_ireturn, vs_iload2, vs_nil, gv_0, gv_1, gv_2, gv_3, pv_0, pv_1, va_rf_s, Nat.reduceDiv, Nat.reduceMod, Nat.reduceAdd, Nat.reduceMul, Int.reduceToNat, true_and, and_true, and_self, cP_eq, cP_ne, cP_lt, cP_ge, cP_gt, cP_le, eL_i, eL_l, eL_r, eL_n, Option.toList_none, Option.toList_some, List.nil_append, List.cons_append, kkI, llI, nnI, rrI, jjI, kkJ, llJ, nnJ, rrJ, iiJ, zIIs, zJJs, nEF, nET, and_false, false_and, jmin, jmax, catS_n, catS_i, catS_r, catS_l, Nat.reduceLeDiff, j1eq1, n21, jt0, jt1, Bool.false_eq_true, Classical.not_not, true_or, or_true, false_or, or_false, true_imp_iff, false_imp_iff, not_true_eq_false, not_false_eq_true, jif0, jif1, jifb, ltT, ltF, leT, leF, eqT, eqF, jlt, jle, jeq, jlt0, jle0, jeq0, jge0, jgt0, jinB, jnat, clt, cle, ceq, cgt, cge, lI_add, lI_sub, lI_mul, jadd, jsub, jmul, jneg, jtol, b010, b011, pv_2t, Int.toNat_natCast, Option.some.injEq, exists_eq_left', if_true, if_false, show gRc 211 = 1 from rfl]
          refine hQR.2.2 o g2 ho ((c0.tr ((c1.tr c2.su).up (by omega))).n) ?_
          refine t_term ih1 x2 ho (c0.tr ((c1.tr c2.su).up (by omega))) eq (by rw [c2.1.1.2.2.2.2.2.1 (m + 11) (by omega)]; exact k2) ?_ ?_
          · intro z
            rcases hq with ⟨a, -⟩ | ⟨a, b⟩
            · rw [a] at z; cases z
            · rw [← b]
              exact bd (b ▸ z)
          · intro z g tm' k w te xg tg hk6 wg ew e
            rcases hq with ⟨a, b⟩ | ⟨a, b⟩
            · intro QR hQR l1 l3
              have te0 := te2.tr te
              have y10 : zI g (m + 10) o = iI (if decide (sgP s 45) = true then -1 else 1) := by
                rw [te0.2.1, k1]
                by_cases c : sgP s 45
                · rw [if_pos c, if_pos (decide_eq_true c)]
                · rw [if_neg c, if_neg (by rw [decide_eq_false c]; decide)]
              have y12 : zI g (m + 12) o = iI (if true = true then 1 else 0) := by
                rw [te0.2.2.1]
                exact k3
              have yv : slO g m (27 + o) v tm' := (k4.of te0.2.2.2).mo fun y => by rw [e] at y; exact (Bool.or_eq_false_iff.mp y).1
              refine t_red (D := D + 1) (hs := true) (acc := v) xg ho tg hk6 y10 y12 wg (fun _ => yv) fun g3 tm3 l3' c3 x3 e3 v3 t3 z3 => ?_
              have er : reV k (decide (sgP s 45)) true v w = jnO (if sgP s 45 then 1 else 0) v q.2.2.2.2 := by
                show jnO (if decide (sgP s 45) = true then 1 else 0) v (tmV k w) = _
                rw [ew]
                by_cases c : sgP s 45
                · rw [if_pos c, if_pos (decide_eq_true c)]
                · rw [if_neg c, if_neg (by rw [decide_eq_false c]; decide)]
              rw [er] at e3 v3
              have c13 : suC o h g3 m := c1.tr (c2.su.tr (te.1.tr c3))
              refine ih2 o _ _ r g3 tm3 ho b (c0.tr (c13.up (by omega))) x3 v3 t3 z3 bd (fun z g4 tm4 c4 x4 v4 e4 => gd z g4 tm4 (c13.tr c4) x4 v4 ?_) QR hQR l1 l3'
              rw [e4, e3, e]
              refine or3 (fun y => ?_) (fun y => ?_)
              · have n1 : q.2.2.2.2.isNone = true := by rw [← ew]; exact tmV_n y
                have n2 : q.2.2.2.2 = none := Option.isNone_iff_eq_none.mp n1
                rw [n2]
                cases v <;> rfl
              · rw [Option.isNone_iff_eq_none] at y
                rw [y] at b
                rw [sm_strict _ _ _ _ b z]
                rfl
            · rw [a] at z; cases z
        have p75 : PW (D + 3) 211 75 [some (.ref m), some (.int l1), some (.int (iI o)), l3] [] h QR := by
          refine vs_ok 5 ?_
          rw [show ((gRes 211).drop 75).take 5 = [.aload 0, .getfield 12142, .iload 2, .aload 0, .iconst 45] from rfl]
          simp (disch := omega) only [vs_iconst, vs_getfield, vs_aload0, vs_iload2, vs_nil, gv_0, gv_1, gv_2, gv_3, pv_0, pv_1, va_rf_s, Nat.reduceDiv, Nat.reduceMod, Nat.reduceAdd, Nat.reduceMul, Int.reduceToNat, true_and, and_true, and_self, cP_eq, cP_ne, cP_lt, cP_ge, cP_gt, cP_le, eL_i, eL_l, eL_r, eL_n, Option.toList_none, Option.toList_some, List.nil_append, List.cons_append, kkI, llI, nnI, rrI, jjI, kkJ, llJ, nnJ, rrJ, iiJ, zIIs, zJJs, nEF, nET, and_false, false_and, jmin, jmax, catS_n, catS_i, catS_r, catS_l, Nat.reduceLeDiff, j1eq1, n21, jt0, jt1, Bool.false_eq_true, Classical.not_not, true_or, or_true, false_or, or_false, true_imp_iff, false_imp_iff, not_true_eq_false, not_false_eq_true, jif0, jif1, jifb, ltT, ltF, leT, leF, eqT, eqF, jlt, jle, jeq, jlt0, jle0, jeq0, jge0, jgt0, jinB, jnat, clt, cle, ceq, cgt, cge, lI_add, lI_sub, lI_mul, jadd, jsub, jmul, jneg, jtol, b010, b011, pv_2t, Int.toNat_natCast, Option.some.injEq, exists_eq_left', if_true, if_false, M, A10]
          refine PW.iv rfl rfl rfl M.1 M.2 (le_b rfl) (le_b rfl) ?_
          refine t_sgn x.1 (by omega) ⟨rfl, ⟨rfl, rfl⟩, ?_⟩
          by_cases c5 : sgP s 45
          · rw [if_pos c5]
            refine vs_ok 1 ?_
            rw [show ((gRes 211).drop 81).take 1 = [.ifCond .eq 84] from rfl]
            simp (disch := omega) only [vs_ifCond, vs_nil, gv_0, gv_1, gv_2, gv_3, pv_0, pv_1, va_rf_s, Nat.reduceDiv, Nat.reduceMod, Nat.reduceAdd, Nat.reduceMul, Int.reduceToNat, true_and, and_true, and_self, cP_eq, cP_ne, cP_lt, cP_ge, cP_gt, cP_le, eL_i, eL_l, eL_r, eL_n, Option.toList_none, Option.toList_some, List.nil_append, List.cons_append, kkI, llI, nnI, rrI, jjI, kkJ, llJ, nnJ, rrJ, iiJ, zIIs, zJJs, nEF, nET, and_false, false_and, jmin, jmax, catS_n, catS_i, catS_r, catS_l, Nat.reduceLeDiff, j1eq1, n21, jt0, jt1, Bool.false_eq_true, Classical.not_not, true_or, or_true, false_or, or_false, true_imp_iff, false_imp_iff, not_true_eq_false, not_false_eq_true, jif0, jif1, jifb, ltT, ltF, leT, leF, eqT, eqF, jlt, jle, jeq, jlt0, jle0, jeq0, jge0, jgt0, jinB, jnat, clt, cle, ceq, cgt, cge, lI_add, lI_sub, lI_mul, jadd, jsub, jmul, jneg, jtol, b010, b011, pv_2t, Int.toNat_natCast, Option.some.injEq, exists_eq_left', if_true, if_false]
            refine vs_ok 2 ?_
            rw [show ((gRes 211).drop 82).take 2 = [.iconst (-1), .goto 85] from rfl]
            simp (disch := omega) only [vs_iconst, vs_goto, vs_nil, gv_0, gv_1, gv_2, gv_3, pv_0, pv_1, va_rf_s, Nat.reduceDiv, Nat.reduceMod, Nat.reduceAdd, Nat.reduceMul, Int.reduceToNat, true_and, and_true, and_self, cP_eq, cP_ne, cP_lt, cP_ge, cP_gt, cP_le, eL_i, eL_l, eL_r, eL_n, Option.toList_none, Option.toList_some, List.nil_append, List.cons_append, kkI, llI, nnI, rrI, jjI, kkJ, llJ, nnJ, rrJ, iiJ, zIIs, zJJs, nEF, nET, and_false, false_and, jmin, jmax, catS_n, catS_i, catS_r, catS_l, Nat.reduceLeDiff, j1eq1, n21, jt0, jt1, Bool.false_eq_true, Classical.not_not, true_or, or_true, false_or, or_false, true_imp_iff, false_imp_iff, not_true_eq_false, not_false_eq_true, jif0, jif1, jifb, ltT, ltF, leT, leF, eqT, eqF, jlt, jle, jeq, jlt0, jle0, jeq0, jge0, jgt0, jinB, jnat, clt, cle, ceq, cgt, cge, lI_add, lI_sub, lI_mul, jadd, jsub, jmul, jneg, jtol, b010, b011, pv_2t, Int.toNat_natCast, Option.some.injEq, exists_eq_left', if_true, if_false]
            refine vs_ok 1 ?_
            rw [show ((gRes 211).drop 85).take 1 = [.iastore] from rfl]
            simp (disch := omega) only [vs_iastore, vs_nil, gv_0, gv_1, gv_2, gv_3, pv_0, pv_1, va_rf_s, Nat.reduceDiv, Nat.reduceMod, Nat.reduceAdd, Nat.reduceMul, Int.reduceToNat, true_and, and_true, and_self, cP_eq, cP_ne, cP_lt, cP_ge, cP_gt, cP_le, eL_i, eL_l, eL_r, eL_n, Option.toList_none, Option.toList_some, List.nil_append, List.cons_append, kkI, llI, nnI, rrI, jjI, kkJ, llJ, nnJ, rrJ, iiJ, zIIs, zJJs, nEF, nET, and_false, false_and, jmin, jmax, catS_n, catS_i, catS_r, catS_l, Nat.reduceLeDiff, j1eq1, n21, jt0, jt1, Bool.false_eq_true, Classical.not_not, true_or, or_true, false_or, or_false, true_imp_iff, false_imp_iff, not_true_eq_false, not_false_eq_true, jif0, jif1, jifb, ltT, ltF, leT, leF, eqT, eqF, jlt, jle, jeq, jlt0, jle0, jeq0, jge0, jgt0, jinB, jnat, clt, cle, ceq, cgt, cge, lI_add, lI_sub, lI_mul, jadd, jsub, jmul, jneg, jtol, b010, b011, pv_2t, Int.toNat_natCast, Option.some.injEq, exists_eq_left', if_true, if_false, M, A10]
            exact p86 _ (by rw [if_pos c5])
          · rw [if_neg c5]
            refine vs_ok 1 ?_
            rw [show ((gRes 211).drop 81).take 1 = [.ifCond .eq 84] from rfl]
            simp (disch := omega) only [vs_ifCond, vs_nil, gv_0, gv_1, gv_2, gv_3, pv_0, pv_1, va_rf_s, Nat.reduceDiv, Nat.reduceMod, Nat.reduceAdd, Nat.reduceMul, Int.reduceToNat, true_and, and_true, and_self, cP_eq, cP_ne, cP_lt, cP_ge, cP_gt, cP_le, eL_i, eL_l, eL_r, eL_n, Option.toList_none, Option.toList_some, List.nil_append, List.cons_append, kkI, llI, nnI, rrI, jjI, kkJ, llJ, nnJ, rrJ, iiJ, zIIs, zJJs, nEF, nET, and_false, false_and, jmin, jmax, catS_n, catS_i, catS_r, catS_l, Nat.reduceLeDiff, j1eq1, n21, jt0, jt1, Bool.false_eq_true, Classical.not_not, true_or, or_true, false_or, or_false, true_imp_iff, false_imp_iff, not_true_eq_false, not_false_eq_true, jif0, jif1, jifb, ltT, ltF, leT, leF, eqT, eqF, jlt, jle, jeq, jlt0, jle0, jeq0, jge0, jgt0, jinB, jnat, clt, cle, ceq, cgt, cge, lI_add, lI_sub, lI_mul, jadd, jsub, jmul, jneg, jtol, b010, b011, pv_2t, Int.toNat_natCast, Option.some.injEq, exists_eq_left', if_true, if_false]
            refine vs_ok 2 ?_
            rw [show ((gRes 211).drop 84).take 2 = [.iconst 1, .iastore] from rfl]
            simp (disch := omega) only [vs_iconst, vs_iastore, vs_nil, gv_0, gv_1, gv_2, gv_3, pv_0, pv_1, va_rf_s, Nat.reduceDiv, Nat.reduceMod, Nat.reduceAdd, Nat.reduceMul, Int.reduceToNat, true_and, and_true, and_self, cP_eq, cP_ne, cP_lt, cP_ge, cP_gt, cP_le, eL_i, eL_l, eL_r, eL_n, Option.toList_none, Option.toList_some, List.nil_append, List.cons_append, kkI, llI, nnI, rrI, jjI, kkJ, llJ, nnJ, rrJ, iiJ, zIIs, zJJs, nEF, nET, and_false, false_and, jmin, jmax, catS_n, catS_i, catS_r, catS_l, Nat.reduceLeDiff, j1eq1, n21, jt0, jt1, Bool.false_eq_true, Classical.not_not, true_or, or_true, false_or, or_false, true_imp_iff, false_imp_iff, not_true_eq_false, not_false_eq_true, jif0, jif1, jifb, ltT, ltF, leT, leF, eqT, eqF, jlt, jle, jeq, jlt0, jle0, jeq0, jge0, jgt0, jinB, jnat, clt, cle, ceq, cgt, cge, lI_add, lI_sub, lI_mul, jadd, jsub, jmul, jneg, jtol, b010, b011, pv_2t, Int.toNat_natCast, Option.some.injEq, exists_eq_left', if_true, if_false, M, A10]
            exact p86 _ (by rw [if_neg c5])
        refine vs_ok 2 ?_
        rw [show ((gRes 211).drop 67).take 2 = [.aload 0, .iconst 43] from rfl]
        simp (disch := omega) only [vs_iconst, vs_aload0, vs_nil, gv_0, gv_1, gv_2, gv_3, pv_0, pv_1, va_rf_s, Nat.reduceDiv, Nat.reduceMod, Nat.reduceAdd, Nat.reduceMul, Int.reduceToNat, true_and, and_true, and_self, cP_eq, cP_ne, cP_lt, cP_ge, cP_gt, cP_le, eL_i, eL_l, eL_r, eL_n, Option.toList_none, Option.toList_some, List.nil_append, List.cons_append, kkI, llI, nnI, rrI, jjI, kkJ, llJ, nnJ, rrJ, iiJ, zIIs, zJJs, nEF, nET, and_false, false_and, jmin, jmax, catS_n, catS_i, catS_r, catS_l, Nat.reduceLeDiff, j1eq1, n21, jt0, jt1, Bool.false_eq_true, Classical.not_not, true_or, or_true, false_or, or_false, true_imp_iff, false_imp_iff, not_true_eq_false, not_false_eq_true, jif0, jif1, jifb, ltT, ltF, leT, leF, eqT, eqF, jlt, jle, jeq, jlt0, jle0, jeq0, jge0, jgt0, jinB, jnat, clt, cle, ceq, cgt, cge, lI_add, lI_sub, lI_mul, jadd, jsub, jmul, jneg, jtol, b010, b011, pv_2t, Int.toNat_natCast, Option.some.injEq, exists_eq_left', if_true, if_false]
        refine PW.iv rfl rfl rfl M.1 M.2 (le_b rfl) (le_b rfl) ?_
        refine t_sgn x.1 (by omega) ⟨rfl, ⟨rfl, rfl⟩, ?_⟩
        by_cases c3 : sgP s 43
        · rw [if_pos c3]
          refine vs_ok 1 ?_
          rw [show ((gRes 211).drop 70).take 1 = [.ifCond .ne 75] from rfl]
          simp (disch := omega) only [vs_ifCond, vs_nil, gv_0, gv_1, gv_2, gv_3, pv_0, pv_1, va_rf_s, Nat.reduceDiv, Nat.reduceMod, Nat.reduceAdd, Nat.reduceMul, Int.reduceToNat, true_and, and_true, and_self, cP_eq, cP_ne, cP_lt, cP_ge, cP_gt, cP_le, eL_i, eL_l, eL_r, eL_n, Option.toList_none, Option.toList_some, List.nil_append, List.cons_append, kkI, llI, nnI, rrI, jjI, kkJ, llJ, nnJ, rrJ, iiJ, zIIs, zJJs, nEF, nET, and_false, false_and, jmin, jmax, catS_n, catS_i, catS_r, catS_l, Nat.reduceLeDiff, j1eq1, n21, jt0, jt1, Bool.false_eq_true, Classical.not_not, true_or, or_true, false_or, or_false, true_imp_iff, false_imp_iff, not_true_eq_false, not_false_eq_true, jif0, jif1, jifb, ltT, ltF, leT, leF, eqT, eqF, jlt, jle, jeq, jlt0, jle0, jeq0, jge0, jgt0, jinB, jnat, clt, cle, ceq, cgt, cge, lI_add, lI_sub, lI_mul, jadd, jsub, jmul, jneg, jtol, b010, b011, pv_2t, Int.toNat_natCast, Option.some.injEq, exists_eq_left', if_true, if_false]
          exact p75
        · rw [if_neg c3]
          have c5 : sgP s 45 := by
            rcases c with c | c
            · exact absurd c c3
            · exact c
          refine vs_ok 1 ?_
          rw [show ((gRes 211).drop 70).take 1 = [.ifCond .ne 75] from rfl]
          simp (disch := omega) only [vs_ifCond, vs_nil, gv_0, gv_1, gv_2, gv_3, pv_0, pv_1, va_rf_s, Nat.reduceDiv, Nat.reduceMod, Nat.reduceAdd, Nat.reduceMul, Int.reduceToNat, true_and, and_true, and_self, cP_eq, cP_ne, cP_lt, cP_ge, cP_gt, cP_le, eL_i, eL_l, eL_r, eL_n, Option.toList_none, Option.toList_some, List.nil_append, List.cons_append, kkI, llI, nnI, rrI, jjI, kkJ, llJ, nnJ, rrJ, iiJ, zIIs, zJJs, nEF, nET, and_false, false_and, jmin, jmax, catS_n, catS_i, catS_r, catS_l, Nat.reduceLeDiff, j1eq1, n21, jt0, jt1, Bool.false_eq_true, Classical.not_not, true_or, or_true, false_or, or_false, true_imp_iff, false_imp_iff, not_true_eq_false, not_false_eq_true, jif0, jif1, jifb, ltT, ltF, leT, leF, eqT, eqF, jlt, jle, jeq, jlt0, jle0, jeq0, jge0, jgt0, jinB, jnat, clt, cle, ceq, cgt, cge, lI_add, lI_sub, lI_mul, jadd, jsub, jmul, jneg, jtol, b010, b011, pv_2t, Int.toNat_natCast, Option.some.injEq, exists_eq_left', if_true, if_false]
          refine vs_ok 2 ?_
          rw [show ((gRes 211).drop 71).take 2 = [.aload 0, .iconst 45] from rfl]
          simp (disch := omega) only [vs_iconst, vs_aload0, vs_nil, gv_0, gv_1, gv_2, gv_3, pv_0, pv_1, va_rf_s, Nat.reduceDiv, Nat.reduceMod, Nat.reduceAdd, Nat.reduceMul, Int.reduceToNat, true_and, and_true, and_self, cP_eq, cP_ne, cP_lt, cP_ge, cP_gt, cP_le, eL_i, eL_l, eL_r, eL_n, Option.toList_none, Option.toList_some, List.nil_append, List.cons_append, kkI, llI, nnI, rrI, jjI, kkJ, llJ, nnJ, rrJ, iiJ, zIIs, zJJs, nEF, nET, and_false, false_and, jmin, jmax, catS_n, catS_i, catS_r, catS_l, Nat.reduceLeDiff, j1eq1, n21, jt0, jt1, Bool.false_eq_true, Classical.not_not, true_or, or_true, false_or, or_false, true_imp_iff, false_imp_iff, not_true_eq_false, not_false_eq_true, jif0, jif1, jifb, ltT, ltF, leT, leF, eqT, eqF, jlt, jle, jeq, jlt0, jle0, jeq0, jge0, jgt0, jinB, jnat, clt, cle, ceq, cgt, cge, lI_add, lI_sub, lI_mul, jadd, jsub, jmul, jneg, jtol, b010, b011, pv_2t, Int.toNat_natCast, Option.some.injEq, exists_eq_left', if_true, if_false]
          refine PW.iv rfl rfl rfl M.1 M.2 (le_b rfl) (le_b rfl) ?_
          refine t_sgn x.1 (by omega) ⟨rfl, ⟨rfl, rfl⟩, ?_⟩
          rw [if_pos c5]
          refine vs_ok 1 ?_
          rw [show ((gRes 211).drop 74).take 1 = [.ifCond .eq 90] from rfl]
          simp (disch := omega) only [vs_ifCond, vs_nil, gv_0, gv_1, gv_2, gv_3, pv_0, pv_1, va_rf_s, Nat.reduceDiv, Nat.reduceMod, Nat.reduceAdd, Nat.reduceMul, Int.reduceToNat, true_and, and_true, and_self, cP_eq, cP_ne, cP_lt, cP_ge, cP_gt, cP_le, eL_i, eL_l, eL_r, eL_n, Option.toList_none, Option.toList_some, List.nil_append, List.cons_append, kkI, llI, nnI, rrI, jjI, kkJ, llJ, nnJ, rrJ, iiJ, zIIs, zJJs, nEF, nET, and_false, false_and, jmin, jmax, catS_n, catS_i, catS_r, catS_l, Nat.reduceLeDiff, j1eq1, n21, jt0, jt1, Bool.false_eq_true, Classical.not_not, true_or, or_true, false_or, or_false, true_imp_iff, false_imp_iff, not_true_eq_false, not_false_eq_true, jif0, jif1, jifb, ltT, ltF, leT, leF, eqT, eqF, jlt, jle, jeq, jlt0, jle0, jeq0, jge0, jgt0, jinB, jnat, clt, cle, ceq, cgt, cge, lI_add, lI_sub, lI_mul, jadd, jsub, jmul, jneg, jtol, b010, b011, pv_2t, Int.toNat_natCast, Option.some.injEq, exists_eq_left', if_true, if_false]
          exact p75
      · rw [if_neg c] at hr
        have hr : r = (true, 0, 0, s, v) := by simpa [okR] using hr.symm
        rw [hr] at gd
        have e27 : (27 : Int) + (o : Int) = ((27 + o : Nat) : Int) := by omega
        refine vs_ok 2 ?_
        rw [show ((gRes 211).drop 67).take 2 = [.aload 0, .iconst 43] from rfl]
        simp (disch := omega) only [vs_iconst, vs_aload0, vs_nil, gv_0, gv_1, gv_2, gv_3, pv_0, pv_1, va_rf_s, Nat.reduceDiv, Nat.reduceMod, Nat.reduceAdd, Nat.reduceMul, Int.reduceToNat, true_and, and_true, and_self, cP_eq, cP_ne, cP_lt, cP_ge, cP_gt, cP_le, eL_i, eL_l, eL_r, eL_n, Option.toList_none, Option.toList_some, List.nil_append, List.cons_append, kkI, llI, nnI, rrI, jjI, kkJ, llJ, nnJ, rrJ, iiJ, zIIs, zJJs, nEF, nET, and_false, false_and, jmin, jmax, catS_n, catS_i, catS_r, catS_l, Nat.reduceLeDiff, j1eq1, n21, jt0, jt1, Bool.false_eq_true, Classical.not_not, true_or, or_true, false_or, or_false, true_imp_iff, false_imp_iff, not_true_eq_false, not_false_eq_true, jif0, jif1, jifb, ltT, ltF, leT, leF, eqT, eqF, jlt, jle, jeq, jlt0, jle0, jeq0, jge0, jgt0, jinB, jnat, clt, cle, ceq, cgt, cge, lI_add, lI_sub, lI_mul, jadd, jsub, jmul, jneg, jtol, b010, b011, pv_2t, Int.toNat_natCast, Option.some.injEq, exists_eq_left', if_true, if_false]
        refine PW.iv rfl rfl rfl M.1 M.2 (le_b rfl) (le_b rfl) ?_
        refine t_sgn x.1 (by omega) ⟨rfl, ⟨rfl, rfl⟩, ?_⟩
        rw [if_neg fun z => c (Or.inl z)]
        refine vs_ok 1 ?_
        rw [show ((gRes 211).drop 70).take 1 = [.ifCond .ne 75] from rfl]
        simp (disch := omega) only [vs_ifCond, vs_nil, gv_0, gv_1, gv_2, gv_3, pv_0, pv_1, va_rf_s, Nat.reduceDiv, Nat.reduceMod, Nat.reduceAdd, Nat.reduceMul, Int.reduceToNat, true_and, and_true, and_self, cP_eq, cP_ne, cP_lt, cP_ge, cP_gt, cP_le, eL_i, eL_l, eL_r, eL_n, Option.toList_none, Option.toList_some, List.nil_append, List.cons_append, kkI, llI, nnI, rrI, jjI, kkJ, llJ, nnJ, rrJ, iiJ, zIIs, zJJs, nEF, nET, and_false, false_and, jmin, jmax, catS_n, catS_i, catS_r, catS_l, Nat.reduceLeDiff, j1eq1, n21, jt0, jt1, Bool.false_eq_true, Classical.not_not, true_or, or_true, false_or, or_false, true_imp_iff, false_imp_iff, not_true_eq_false, not_false_eq_true, jif0, jif1, jifb, ltT, ltF, leT, leF, eqT, eqF, jlt, jle, jeq, jlt0, jle0, jeq0, jge0, jgt0, jinB, jnat, clt, cle, ceq, cgt, cge, lI_add, lI_sub, lI_mul, jadd, jsub, jmul, jneg, jtol, b010, b011, pv_2t, Int.toNat_natCast, Option.some.injEq, exists_eq_left', if_true, if_false]
        refine vs_ok 2 ?_
        rw [show ((gRes 211).drop 71).take 2 = [.aload 0, .iconst 45] from rfl]
        simp (disch := omega) only [vs_iconst, vs_aload0, vs_nil, gv_0, gv_1, gv_2, gv_3, pv_0, pv_1, va_rf_s, Nat.reduceDiv, Nat.reduceMod, Nat.reduceAdd, Nat.reduceMul, Int.reduceToNat, true_and, and_true, and_self, cP_eq, cP_ne, cP_lt, cP_ge, cP_gt, cP_le, eL_i, eL_l, eL_r, eL_n, Option.toList_none, Option.toList_some, List.nil_append, List.cons_append, kkI, llI, nnI, rrI, jjI, kkJ, llJ, nnJ, rrJ, iiJ, zIIs, zJJs, nEF, nET, and_false, false_and, jmin, jmax, catS_n, catS_i, catS_r, catS_l, Nat.reduceLeDiff, j1eq1, n21, jt0, jt1, Bool.false_eq_true, Classical.not_not, true_or, or_true, false_or, or_false, true_imp_iff, false_imp_iff, not_true_eq_false, not_false_eq_true, jif0, jif1, jifb, ltT, ltF, leT, leF, eqT, eqF, jlt, jle, jeq, jlt0, jle0, jeq0, jge0, jgt0, jinB, jnat, clt, cle, ceq, cgt, cge, lI_add, lI_sub, lI_mul, jadd, jsub, jmul, jneg, jtol, b010, b011, pv_2t, Int.toNat_natCast, Option.some.injEq, exists_eq_left', if_true, if_false]
        refine PW.iv rfl rfl rfl M.1 M.2 (le_b rfl) (le_b rfl) ?_
        refine t_sgn x.1 (by omega) ⟨rfl, ⟨rfl, rfl⟩, ?_⟩
        rw [if_neg fun z => c (Or.inr z)]
        refine vs_ok 1 ?_
        rw [show ((gRes 211).drop 74).take 1 = [.ifCond .eq 90] from rfl]
        simp (disch := omega) only [vs_ifCond, vs_nil, gv_0, gv_1, gv_2, gv_3, pv_0, pv_1, va_rf_s, Nat.reduceDiv, Nat.reduceMod, Nat.reduceAdd, Nat.reduceMul, Int.reduceToNat, true_and, and_true, and_self, cP_eq, cP_ne, cP_lt, cP_ge, cP_gt, cP_le, eL_i, eL_l, eL_r, eL_n, Option.toList_none, Option.toList_some, List.nil_append, List.cons_append, kkI, llI, nnI, rrI, jjI, kkJ, llJ, nnJ, rrJ, iiJ, zIIs, zJJs, nEF, nET, and_false, false_and, jmin, jmax, catS_n, catS_i, catS_r, catS_l, Nat.reduceLeDiff, j1eq1, n21, jt0, jt1, Bool.false_eq_true, Classical.not_not, true_or, or_true, false_or, or_false, true_imp_iff, false_imp_iff, not_true_eq_false, not_false_eq_true, jif0, jif1, jifb, ltT, ltF, leT, leF, eqT, eqF, jlt, jle, jeq, jlt0, jle0, jeq0, jge0, jgt0, jinB, jnat, clt, cle, ceq, cgt, cge, lI_add, lI_sub, lI_mul, jadd, jsub, jmul, jneg, jtol, b010, b011, pv_2t, Int.toNat_natCast, Option.some.injEq, exists_eq_left', if_true, if_false]
        refine vs_ok 5 ?_
        rw [show ((gRes 211).drop 90).take 5 = [.aload 0, .iconst 27, .iload 2, .iadd, .iconst 24] from rfl]
        simp (disch := omega) only [vs_iadd, vs_iconst, vs_aload0, vs_iload2, vs_nil, gv_0, gv_1, gv_2, gv_3, pv_0, pv_1, va_rf_s, Nat.reduceDiv, Nat.reduceMod, Nat.reduceAdd, Nat.reduceMul, Int.reduceToNat, true_and, and_true, and_self, cP_eq, cP_ne, cP_lt, cP_ge, cP_gt, cP_le, eL_i, eL_l, eL_r, eL_n, Option.toList_none, Option.toList_some, List.nil_append, List.cons_append, kkI, llI, nnI, rrI, jjI, kkJ, llJ, nnJ, rrJ, iiJ, zIIs, zJJs, nEF, nET, and_false, false_and, jmin, jmax, catS_n, catS_i, catS_r, catS_l, Nat.reduceLeDiff, j1eq1, n21, jt0, jt1, Bool.false_eq_true, Classical.not_not, true_or, or_true, false_or, or_false, true_imp_iff, false_imp_iff, not_true_eq_false, not_false_eq_true, jif0, jif1, jifb, ltT, ltF, leT, leF, eqT, eqF, jlt, jle, jeq, jlt0, jle0, jeq0, jge0, jgt0, jinB, jnat, clt, cle, ceq, cgt, cge, lI_add, lI_sub, lI_mul, jadd, jsub, jmul, jneg, jtol, b010, b011, pv_2t, Int.toNat_natCast, Option.some.injEq, exists_eq_left', if_true, if_false, e27]
        refine PW.iv rfl rfl rfl M.1 M.2 (le_b rfl) (le_b rfl) ?_
        refine t_copyO (a := 27 + o) (b := 24) x.m (show 27 + o < 49 by omega) (show 24 < 49 by omega) (by omega) vg fun g2 p2 eI2 v2 => ⟨rfl, ⟨p2.1.1.2.2.1, rfl⟩, ?_⟩
        have x2 := x.po p2 (fun s z => by omega) (tm' := tm) (by rw [eI2]; exact x.2.2.2)
        refine gd rfl g2 tm (p2.su fun s z => by omega) x2 v2 ?_ QR hQR _ _
        cases tm with
        | true => rfl
        | false =>
          obtain ⟨u, e, -⟩ := vg rfl
          rw [e]
          rfl
/-- what reading a whole SUM changes -/
def sumW (h g : Hp) (m : Nat) : Prop := fi (fun q => q = m ∨ q = m + 2 ∨ q = m + 3 ∨ (m + 9 ≤ q ∧ q ≤ m + 12)) h g ∧ (∀ i, i ≠ 4 → i ≠ 17 → i ≠ 18 → i ≠ 19 → i ≠ 20 → i ≠ 7 → zI g m i = zI h m i) ∧ ∀ s, s < 24 → (∀ k, k < 401 → zJ g (m + 2) (401 * s + k) = zJ h (m + 2) (401 * s + k)) ∧ zJ g (m + 3) s = zJ h (m + 3) s
theorem sumW.tr {a b c : Hp} {m : Nat} (x : sumW a b m) (y : sumW b c m) : sumW a c m :=
  ⟨x.1.tr y.1, fun i h1 h2 h3 h4 h5 h6 => by rw [y.2.1 i h1 h2 h3 h4 h5 h6, x.2.1 i h1 h2 h3 h4 h5 h6], fun s hs => ⟨fun k hk => by rw [(y.2.2 s hs).1 k hk, (x.2.2 s hs).1 k hk], by rw [(y.2.2 s hs).2, (x.2.2 s hs).2]⟩⟩
theorem suC.w {o : Nat} {h g : Hp} {m : Nat} (x : suC o h g m) : sumW h g m := ⟨x.1, x.2.1, fun s hs => x.2.2.2.2 s (by omega) (by omega)⟩
theorem sumW.sl {h g : Hp} {m s : Nat} {W : Int → Int} {tot : Int} (x : sumW h g m) (hs : s < 24) (v : slW h m s W tot) : slW g m s W tot := ⟨fun k hk => by rw [(x.2.2 s hs).1 k hk]; exact v.1 k hk, by rw [(x.2.2 s hs).2]; exact v.2⟩
theorem sumW.fl {h g : Hp} {m : Nat} (x : sumW h g m) : flC h g m := ⟨x.1, fun i h1 h2 h3 h4 h5 h6 _ _ => x.2.1 i h1 h2 h3 h4 h5 h6, x.2.2⟩
theorem t_M_sum {D f : Nat} {h : Hp} {m sz n : Nat} {B Wd : Nat → Int} {Vn : Nat → RowVal} {s : R4} {tm : Bool} {r : PRes} {Q : Nat → Option Value → Hp → Prop} (x : suG h m sz n B Wd Vn s tm) (hr : smS B sz Wd n Vn f none 0 s = some r)
    (gd : r.1 = true → ∀ g tm', sumW h g m → suG g m sz n B Wd Vn r.2.2.2.1 tm' → slO g m 24 r.2.2.2.2 tm' → tm' = (tm || r.2.2.2.2.isNone) → Q 0 (some (.int (iI 1))) g) (bd : r.1 = false → ∀ g, flC h g m → zI g m 21 = iI r.2.1 → e22 g m r.2.2.1 → Q 0 (some (.int (iI 0))) g) : PR (D + 4) m_M_sum [.ref m] h Q := by
  have M := x.m.k
  have A9 := x.m.kind
  show PW (D + 4) 210 0 [some (.ref m), none, none, none, none, none, none] [] h Q
  refine vs_ok 7 ?_
  rw [show ((gRes 210).drop 0).take 7 = [.iconst 0, .istore 1, .aload 0, .getfield 12132, .iconst 0, .iconst 0, .iastore] from rfl]
  simp (disch := omega) only [vs_iconst, vs_getfield, vs_iastore, vs_aload0, vs_istore1n, vs_istore1i, vs_istore1r, vs_istore1l, vs_nil, gv_0, gv_1, gv_2, gv_3, pv_0, pv_1, va_rf_s, Nat.reduceDiv, Nat.reduceMod, Nat.reduceAdd, Nat.reduceMul, Int.reduceToNat, true_and, and_true, and_self, cP_eq, cP_ne, cP_lt, cP_ge, cP_gt, cP_le, eL_i, eL_l, eL_r, eL_n, Option.toList_none, Option.toList_some, List.nil_append, List.cons_append, kkI, llI, nnI, rrI, jjI, kkJ, llJ, nnJ, rrJ, iiJ, zIIs, zJJs, nEF, nET, and_false, false_and, jmin, jmax, catS_n, catS_i, catS_r, catS_l, Nat.reduceLeDiff, j1eq1, n21, jt0, jt1, Bool.false_eq_true, Classical.not_not, true_or, or_true, false_or, or_false, true_imp_iff, false_imp_iff, not_true_eq_false, not_false_eq_true, jif0, jif1, jifb, ltT, ltF, leT, leF, eqT, eqF, jlt, jle, jeq, jlt0, jle0, jeq0, jge0, jgt0, jinB, jnat, clt, cle, ceq, cgt, cge, lI_add, lI_sub, lI_mul, jadd, jsub, jmul, jneg, jtol, b010, b011, pv_2t, Int.toNat_natCast, Option.some.injEq, exists_eq_left', if_true, if_false, M, A9]
  have f1 : fi (fun z => z = m + 9) h (zsI h (m + 9) 0 (iI 0)) := fi_I rfl
  have x1 := x.ar f1 (by omega) rfl
  have w1 : sumW h (zsI h (m + 9) 0 (iI 0)) m := ⟨f1.wk fun q z => by omega, fun i _ _ _ _ _ _ => by rw [zI_s, if_neg (by omega)], fun s _ => ⟨fun _ _ => rfl, rfl⟩⟩
  generalize zsI h (m + 9) 0 (iI 0) = g1 at *
  have M1 := x1.m.k
  refine vs_ok 2 ?_
  rw [show ((gRes 210).drop 7).take 2 = [.aload 0, .iconst 0] from rfl]
  simp (disch := omega) only [vs_iconst, vs_aload0, vs_nil, gv_0, gv_1, gv_2, gv_3, pv_0, pv_1, va_rf_s, Nat.reduceDiv, Nat.reduceMod, Nat.reduceAdd, Nat.reduceMul, Int.reduceToNat, true_and, and_true, and_self, cP_eq, cP_ne, cP_lt, cP_ge, cP_gt, cP_le, eL_i, eL_l, eL_r, eL_n, Option.toList_none, Option.toList_some, List.nil_append, List.cons_append, kkI, llI, nnI, rrI, jjI, kkJ, llJ, nnJ, rrJ, iiJ, zIIs, zJJs, nEF, nET, and_false, false_and, jmin, jmax, catS_n, catS_i, catS_r, catS_l, Nat.reduceLeDiff, j1eq1, n21, jt0, jt1, Bool.false_eq_true, Classical.not_not, true_or, or_true, false_or, or_false, true_imp_iff, false_imp_iff, not_true_eq_false, not_false_eq_true, jif0, jif1, jifb, ltT, ltF, leT, leF, eqT, eqF, jlt, jle, jeq, jlt0, jle0, jeq0, jge0, jgt0, jinB, jnat, clt, cle, ceq, cgt, cge, lI_add, lI_sub, lI_mul, jadd, jsub, jmul, jneg, jtol, b010, b011, pv_2t, Int.toNat_natCast, Option.some.injEq, exists_eq_left', if_true, if_false]
  refine PW.iv rfl rfl rfl M1.1 M1.2 (le_b rfl) (le_b rfl) ?_
  refine t_M_begin (o := 0) x1 (by omega) fun g2 c2 x2 b2 => ⟨rfl, ⟨c2.n, rfl⟩, ?_⟩
  refine (t_SIM (h0 := g1) f).1 0 s r g2 tm (by omega) hr c2 x2 b2 (fun z g fl => bd z g (w1.fl.tr fl.1) fl.2.1 fl.2.2) (fun z g tm' c xg vg e => ?_) _ _ _ _ _
  intro QR hQR l1 l3
  refine vs_ok 2 ?_
  rw [show ((gRes 211).drop 96).take 2 = [.iload 2, .ifCond .ne 100] from rfl]
  simp (disch := omega) only [vs_ifCond, vs_iload2, vs_nil, gv_0, gv_1, gv_2, gv_3, pv_0, pv_1, va_rf_s, Nat.reduceDiv, Nat.reduceMod, Nat.reduceAdd, Nat.reduceMul, Int.reduceToNat, true_and, and_true, and_self, cP_eq, cP_ne, cP_lt, cP_ge, cP_gt, cP_le, eL_i, eL_l, eL_r, eL_n, Option.toList_none, Option.toList_some, List.nil_append, List.cons_append, kkI, llI, nnI, rrI, jjI, kkJ, llJ, nnJ, rrJ, iiJ, zIIs, zJJs, nEF, nET, and_false, false_and, jmin, jmax, catS_n, catS_i, catS_r, catS_l, Nat.reduceLeDiff, j1eq1, n21, jt0, jt1, Bool.false_eq_true, Classical.not_not, true_or, or_true, false_or, or_false, true_imp_iff, false_imp_iff, not_true_eq_false, not_false_eq_true, jif0, jif1, jifb, ltT, ltF, leT, leF, eqT, eqF, jlt, jle, jeq, jlt0, jle0, jeq0, jge0, jgt0, jinB, jnat, clt, cle, ceq, cgt, cge, lI_add, lI_sub, lI_mul, jadd, jsub, jmul, jneg, jtol, b010, b011, pv_2t, Int.toNat_natCast, Option.some.injEq, exists_eq_left', if_true, if_false]
  refine vs_ok 2 ?_
  rw [show ((gRes 211).drop 98).take 2 = [.iconst (-1), .ireturn] from rfl]
  simp (disch := omega) only [vs_iconst, vs_ireturn, vs_nil, gv_0, gv_1, gv_2, gv_3, pv_0, pv_1, va_rf_s, Nat.reduceDiv, Nat.reduceMod, Nat.reduceAdd, Nat.reduceMul, Int.reduceToNat, true_and, and_true, and_self, cP_eq, cP_ne, cP_lt, cP_ge, cP_gt, cP_le, eL_i, eL_l, eL_r, eL_n, Option.toList_none, Option.toList_some, List.nil_append, List.cons_append, kkI, llI, nnI, rrI, jjI, kkJ, llJ, nnJ, rrJ, iiJ, zIIs, zJJs, nEF, nET, and_false, false_and, jmin, jmax, catS_n, catS_i, catS_r, catS_l, Nat.reduceLeDiff, j1eq1, n21, jt0, jt1, Bool.false_eq_true, Classical.not_not, true_or, or_true, false_or, or_false, true_imp_iff, false_imp_iff, not_true_eq_false, not_false_eq_true, jif0, jif1, jifb, ltT, ltF, leT, leF, eqT, eqF, jlt, jle, jeq, jlt0, jle0, jeq0, jge0, jgt0, jinB, jnat, clt, cle, ceq, cgt, cge, lI_add, lI_sub, lI_mul, jadd, jsub, jmul, jneg, jtol, b010, b011, pv_2t, Int.toNat_natCast, Option.some.injEq, exists_eq_left', if_true, if_false, show gRc 211 = 1 from rfl]
  exact hQR.1 g ((c2.tr c).n) (gd z g tm' (w1.tr (c2.tr c).w) xg vg e)
