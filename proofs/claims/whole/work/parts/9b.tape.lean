/-! the Model: isIn, plain, thrown, throwsIf, is, the tape -/
theorem PW.bas {d k i a : Nat} {ls : List (Option Value)} {r : List Value} {h : Hp} {j x : Int32} {Q : Nat → Option Value → Hp → Prop} (hf : (gRes k)[i]? = some .bastore) (hk : zK h a = 13 ∧ a < zN h ∧ inB j (zL h a) = true) (kk : PW d k (i + 1) ls r (zsI h a j.toNatClampNeg (vp_nar .byte x)) Q) : PW d k i ls (.int x :: .int j :: .ref a :: r) h Q :=
  PW.step hf rfl rfl (by
    show (if a < zN h ∧ inB j (zL h a) = true then (if zK h a = 13 then some (i + 1, ls, r, zsI h a j.toNatClampNeg (vp_nar .byte x)) else if zK h a = 16 then some (i + 1, ls, r, zsI h a j.toNatClampNeg (vp_nar .boolean x)) else none) else none) = _
    rw [if_pos hk.2, if_pos hk.1]) kk
theorem PW.bos {d k i a : Nat} {ls : List (Option Value)} {r : List Value} {h : Hp} {j x : Int32} {Q : Nat → Option Value → Hp → Prop} (hf : (gRes k)[i]? = some .bastore) (hk : zK h a = 16 ∧ a < zN h ∧ inB j (zL h a) = true) (kk : PW d k (i + 1) ls r (zsI h a j.toNatClampNeg (vp_nar .boolean x)) Q) : PW d k i ls (.int x :: .int j :: .ref a :: r) h Q :=
  PW.step hf rfl rfl (by
    show (if a < zN h ∧ inB j (zL h a) = true then (if zK h a = 13 then some (i + 1, ls, r, zsI h a j.toNatClampNeg (vp_nar .byte x)) else if zK h a = 16 then some (i + 1, ls, r, zsI h a j.toNatClampNeg (vp_nar .boolean x)) else none) else none) = _
    rw [if_pos hk.2, if_neg (by omega), if_pos hk.1]) kk
theorem t_M_isIn {d : Nat} {h : Hp} {v a b : Int} {Q : Nat → Option Value → Hp → Prop} (hv : i32 v) (ha : i32 a) (hb : i32 b) (hq : Q 0 (some (.int (iI (if a ≤ v ∧ v ≤ b then 1 else 0)))) h) : PR d m_M_isIn [.int (iI v), .int (iI a), .int (iI b)] h Q := by
  have v1 := hv.1
  have v2 := hv.2
  have a1 := ha.1
  have a2 := ha.2
  have b1 := hb.1
  have b2 := hb.2
  show PW d 186 0 [some (.int (iI v)), some (.int (iI a)), some (.int (iI b))] [] h Q
  by_cases c1 : a ≤ v
  · by_cases c2 : v ≤ b
    · rw [if_pos ⟨c1, c2⟩] at hq
      refine vs_ok 8 ?_
      rw [show ((gRes 186).drop 0).take 8 = [.iload 0, .iload 1, .if_icmp .lt 8, .iload 0, .iload 2, .if_icmp .gt 8, .iconst 1, .goto 9] from rfl]
      simp (disch := omega) only [vs_iconst, vs_goto, vs_if_icmp, vs_iload0, vs_iload1, vs_iload2, vs_nil, gv_0, gv_1, gv_2, gv_3, pv_0, pv_1, va_rf_s, Nat.reduceDiv, Nat.reduceMod, Nat.reduceAdd, Nat.reduceMul, Int.reduceToNat, true_and, and_true, and_self, cP_eq, cP_ne, cP_lt, cP_ge, cP_gt, cP_le, eL_i, eL_l, eL_r, eL_n, Option.toList_none, Option.toList_some, List.nil_append, List.cons_append, kkI, llI, nnI, rrI, jjI, kkJ, llJ, nnJ, rrJ, iiJ, zIIs, zJJs, nEF, nET, and_false, false_and, jmin, jmax, catS_n, catS_i, catS_r, catS_l, Nat.reduceLeDiff, j1eq1, n21, jt0, jt1, Bool.false_eq_true, Classical.not_not, true_or, or_true, false_or, or_false, true_imp_iff, false_imp_iff, not_true_eq_false, not_false_eq_true, jif0, jif1, jifb, ltT, ltF, leT, leF, eqT, eqF, jlt, jle, jeq, jlt0, jle0, jeq0, jge0, jgt0, jinB, jnat, clt, cle, ceq, cgt, cge, lI_add, lI_sub, lI_mul, jadd, jsub, jmul, jneg, jtol, b010, b011, pv_2t, Int.toNat_natCast, Option.some.injEq, exists_eq_left', if_true, if_false]
      refine vs_ok 1 ?_
      rw [show ((gRes 186).drop 9).take 1 = [.ireturn] from rfl]
      simp (disch := omega) only [vs_ireturn, vs_nil, gv_0, gv_1, gv_2, gv_3, pv_0, pv_1, va_rf_s, Nat.reduceDiv, Nat.reduceMod, Nat.reduceAdd, Nat.reduceMul, Int.reduceToNat, true_and, and_true, and_self, cP_eq, cP_ne, cP_lt, cP_ge, cP_gt, cP_le, eL_i, eL_l, eL_r, eL_n, Option.toList_none, Option.toList_some, List.nil_append, List.cons_append, kkI, llI, nnI, rrI, jjI, kkJ, llJ, nnJ, rrJ, iiJ, zIIs, zJJs, nEF, nET, and_false, false_and, jmin, jmax, catS_n, catS_i, catS_r, catS_l, Nat.reduceLeDiff, j1eq1, n21, jt0, jt1, Bool.false_eq_true, Classical.not_not, true_or, or_true, false_or, or_false, true_imp_iff, false_imp_iff, not_true_eq_false, not_false_eq_true, jif0, jif1, jifb, ltT, ltF, leT, leF, eqT, eqF, jlt, jle, jeq, jlt0, jle0, jeq0, jge0, jgt0, jinB, jnat, clt, cle, ceq, cgt, cge, lI_add, lI_sub, lI_mul, jadd, jsub, jmul, jneg, jtol, b010, b011, pv_2t, Int.toNat_natCast, Option.some.injEq, exists_eq_left', if_true, if_false, show gRc 186 = 2 from rfl]
      exact hq
    · rw [if_neg fun z => c2 z.2] at hq
      refine vs_ok 6 ?_
      rw [show ((gRes 186).drop 0).take 6 = [.iload 0, .iload 1, .if_icmp .lt 8, .iload 0, .iload 2, .if_icmp .gt 8] from rfl]
      simp (disch := omega) only [vs_if_icmp, vs_iload0, vs_iload1, vs_iload2, vs_nil, gv_0, gv_1, gv_2, gv_3, pv_0, pv_1, va_rf_s, Nat.reduceDiv, Nat.reduceMod, Nat.reduceAdd, Nat.reduceMul, Int.reduceToNat, true_and, and_true, and_self, cP_eq, cP_ne, cP_lt, cP_ge, cP_gt, cP_le, eL_i, eL_l, eL_r, eL_n, Option.toList_none, Option.toList_some, List.nil_append, List.cons_append, kkI, llI, nnI, rrI, jjI, kkJ, llJ, nnJ, rrJ, iiJ, zIIs, zJJs, nEF, nET, and_false, false_and, jmin, jmax, catS_n, catS_i, catS_r, catS_l, Nat.reduceLeDiff, j1eq1, n21, jt0, jt1, Bool.false_eq_true, Classical.not_not, true_or, or_true, false_or, or_false, true_imp_iff, false_imp_iff, not_true_eq_false, not_false_eq_true, jif0, jif1, jifb, ltT, ltF, leT, leF, eqT, eqF, jlt, jle, jeq, jlt0, jle0, jeq0, jge0, jgt0, jinB, jnat, clt, cle, ceq, cgt, cge, lI_add, lI_sub, lI_mul, jadd, jsub, jmul, jneg, jtol, b010, b011, pv_2t, Int.toNat_natCast, Option.some.injEq, exists_eq_left', if_true, if_false]
      refine vs_ok 2 ?_
      rw [show ((gRes 186).drop 8).take 2 = [.iconst 0, .ireturn] from rfl]
      simp (disch := omega) only [vs_iconst, vs_ireturn, vs_nil, gv_0, gv_1, gv_2, gv_3, pv_0, pv_1, va_rf_s, Nat.reduceDiv, Nat.reduceMod, Nat.reduceAdd, Nat.reduceMul, Int.reduceToNat, true_and, and_true, and_self, cP_eq, cP_ne, cP_lt, cP_ge, cP_gt, cP_le, eL_i, eL_l, eL_r, eL_n, Option.toList_none, Option.toList_some, List.nil_append, List.cons_append, kkI, llI, nnI, rrI, jjI, kkJ, llJ, nnJ, rrJ, iiJ, zIIs, zJJs, nEF, nET, and_false, false_and, jmin, jmax, catS_n, catS_i, catS_r, catS_l, Nat.reduceLeDiff, j1eq1, n21, jt0, jt1, Bool.false_eq_true, Classical.not_not, true_or, or_true, false_or, or_false, true_imp_iff, false_imp_iff, not_true_eq_false, not_false_eq_true, jif0, jif1, jifb, ltT, ltF, leT, leF, eqT, eqF, jlt, jle, jeq, jlt0, jle0, jeq0, jge0, jgt0, jinB, jnat, clt, cle, ceq, cgt, cge, lI_add, lI_sub, lI_mul, jadd, jsub, jmul, jneg, jtol, b010, b011, pv_2t, Int.toNat_natCast, Option.some.injEq, exists_eq_left', if_true, if_false, show gRc 186 = 2 from rfl]
      exact hq
  · rw [if_neg fun z => c1 z.1] at hq
    refine vs_ok 3 ?_
    rw [show ((gRes 186).drop 0).take 3 = [.iload 0, .iload 1, .if_icmp .lt 8] from rfl]
    simp (disch := omega) only [vs_if_icmp, vs_iload0, vs_iload1, vs_nil, gv_0, gv_1, gv_2, gv_3, pv_0, pv_1, va_rf_s, Nat.reduceDiv, Nat.reduceMod, Nat.reduceAdd, Nat.reduceMul, Int.reduceToNat, true_and, and_true, and_self, cP_eq, cP_ne, cP_lt, cP_ge, cP_gt, cP_le, eL_i, eL_l, eL_r, eL_n, Option.toList_none, Option.toList_some, List.nil_append, List.cons_append, kkI, llI, nnI, rrI, jjI, kkJ, llJ, nnJ, rrJ, iiJ, zIIs, zJJs, nEF, nET, and_false, false_and, jmin, jmax, catS_n, catS_i, catS_r, catS_l, Nat.reduceLeDiff, j1eq1, n21, jt0, jt1, Bool.false_eq_true, Classical.not_not, true_or, or_true, false_or, or_false, true_imp_iff, false_imp_iff, not_true_eq_false, not_false_eq_true, jif0, jif1, jifb, ltT, ltF, leT, leF, eqT, eqF, jlt, jle, jeq, jlt0, jle0, jeq0, jge0, jgt0, jinB, jnat, clt, cle, ceq, cgt, cge, lI_add, lI_sub, lI_mul, jadd, jsub, jmul, jneg, jtol, b010, b011, pv_2t, Int.toNat_natCast, Option.some.injEq, exists_eq_left', if_true, if_false]
    refine vs_ok 2 ?_
    rw [show ((gRes 186).drop 8).take 2 = [.iconst 0, .ireturn] from rfl]
    simp (disch := omega) only [vs_iconst, vs_ireturn, vs_nil, gv_0, gv_1, gv_2, gv_3, pv_0, pv_1, va_rf_s, Nat.reduceDiv, Nat.reduceMod, Nat.reduceAdd, Nat.reduceMul, Int.reduceToNat, true_and, and_true, and_self, cP_eq, cP_ne, cP_lt, cP_ge, cP_gt, cP_le, eL_i, eL_l, eL_r, eL_n, Option.toList_none, Option.toList_some, List.nil_append, List.cons_append, kkI, llI, nnI, rrI, jjI, kkJ, llJ, nnJ, rrJ, iiJ, zIIs, zJJs, nEF, nET, and_false, false_and, jmin, jmax, catS_n, catS_i, catS_r, catS_l, Nat.reduceLeDiff, j1eq1, n21, jt0, jt1, Bool.false_eq_true, Classical.not_not, true_or, or_true, false_or, or_false, true_imp_iff, false_imp_iff, not_true_eq_false, not_false_eq_true, jif0, jif1, jifb, ltT, ltF, leT, leF, eqT, eqF, jlt, jle, jeq, jlt0, jle0, jeq0, jge0, jgt0, jinB, jnat, clt, cle, ceq, cgt, cge, lI_add, lI_sub, lI_mul, jadd, jsub, jmul, jneg, jtol, b010, b011, pv_2t, Int.toNat_natCast, Option.some.injEq, exists_eq_left', if_true, if_false, show gRc 186 = 2 from rfl]
    exact hq
theorem t_M_plain {d : Nat} {h : Hp} {v : Int} {Q : Nat → Option Value → Hp → Prop} (hv : -9223372036854775808 < v ∧ v < 9223372036854775808) (hq : Q 0 (some (.long (lI (v.natAbs : Int)))) h) : PR d m_M_plain [.long (lI v)] h Q := by
  show PW d 187 0 [some (.long (lI v)), none] [] h Q
  by_cases c : v < 0
  · rw [show ((v.natAbs : Nat) : Int) = -v by omega] at hq
    refine vs_ok 7 ?_
    rw [show ((gRes 187).drop 0).take 7 = [.lload 0, .jsr_w 0, .lcmp, .ifCond .ge 7, .lload 0, .lneg, .goto 8] from rfl]
    simp (disch := omega) only [vs_lcmp, vs_jsr_w, vs_goto, vs_ifCond, vs_lload0, vs_nil, gv_0, gv_1, gv_2, gv_3, pv_0, pv_1, va_rf_s, vs_lneg, Nat.reduceDiv, Nat.reduceMod, Nat.reduceAdd, Nat.reduceMul, Int.reduceToNat, true_and, and_true, and_self, cP_eq, cP_ne, cP_lt, cP_ge, cP_gt, cP_le, eL_i, eL_l, eL_r, eL_n, Option.toList_none, Option.toList_some, List.nil_append, List.cons_append, kkI, llI, nnI, rrI, jjI, kkJ, llJ, nnJ, rrJ, iiJ, zIIs, zJJs, nEF, nET, and_false, false_and, jmin, jmax, catS_n, catS_i, catS_r, catS_l, Nat.reduceLeDiff, j1eq1, n21, jt0, jt1, Bool.false_eq_true, Classical.not_not, true_or, or_true, false_or, or_false, true_imp_iff, false_imp_iff, not_true_eq_false, not_false_eq_true, jif0, jif1, jifb, ltT, ltF, leT, leF, eqT, eqF, jlt, jle, jeq, jlt0, jle0, jeq0, jge0, jgt0, jinB, jnat, clt, cle, ceq, cgt, cge, lI_add, lI_sub, lI_mul, jadd, jsub, jmul, jneg, jtol, b010, b011, pv_2t, Int.toNat_natCast, Option.some.injEq, exists_eq_left', if_true, if_false]
    rw [show -Int64.ofInt v = lI (-v) from lI_neg v]
    refine vs_ok 1 ?_
    rw [show ((gRes 187).drop 8).take 1 = [.lreturn] from rfl]
    simp (disch := omega) only [vs_lreturn, vs_nil, gv_0, gv_1, gv_2, gv_3, pv_0, pv_1, va_rf_s, Nat.reduceDiv, Nat.reduceMod, Nat.reduceAdd, Nat.reduceMul, Int.reduceToNat, true_and, and_true, and_self, cP_eq, cP_ne, cP_lt, cP_ge, cP_gt, cP_le, eL_i, eL_l, eL_r, eL_n, Option.toList_none, Option.toList_some, List.nil_append, List.cons_append, kkI, llI, nnI, rrI, jjI, kkJ, llJ, nnJ, rrJ, iiJ, zIIs, zJJs, nEF, nET, and_false, false_and, jmin, jmax, catS_n, catS_i, catS_r, catS_l, Nat.reduceLeDiff, j1eq1, n21, jt0, jt1, Bool.false_eq_true, Classical.not_not, true_or, or_true, false_or, or_false, true_imp_iff, false_imp_iff, not_true_eq_false, not_false_eq_true, jif0, jif1, jifb, ltT, ltF, leT, leF, eqT, eqF, jlt, jle, jeq, jlt0, jle0, jeq0, jge0, jgt0, jinB, jnat, clt, cle, ceq, cgt, cge, lI_add, lI_sub, lI_mul, jadd, jsub, jmul, jneg, jtol, b010, b011, pv_2t, Int.toNat_natCast, Option.some.injEq, exists_eq_left', if_true, if_false, show gRc 187 = 3 from rfl]
    exact hq
  · rw [show ((v.natAbs : Nat) : Int) = v by omega] at hq
    refine vs_ok 4 ?_
    rw [show ((gRes 187).drop 0).take 4 = [.lload 0, .jsr_w 0, .lcmp, .ifCond .ge 7] from rfl]
    simp (disch := omega) only [vs_lcmp, vs_jsr_w, vs_ifCond, vs_lload0, vs_nil, gv_0, gv_1, gv_2, gv_3, pv_0, pv_1, va_rf_s, Nat.reduceDiv, Nat.reduceMod, Nat.reduceAdd, Nat.reduceMul, Int.reduceToNat, true_and, and_true, and_self, cP_eq, cP_ne, cP_lt, cP_ge, cP_gt, cP_le, eL_i, eL_l, eL_r, eL_n, Option.toList_none, Option.toList_some, List.nil_append, List.cons_append, kkI, llI, nnI, rrI, jjI, kkJ, llJ, nnJ, rrJ, iiJ, zIIs, zJJs, nEF, nET, and_false, false_and, jmin, jmax, catS_n, catS_i, catS_r, catS_l, Nat.reduceLeDiff, j1eq1, n21, jt0, jt1, Bool.false_eq_true, Classical.not_not, true_or, or_true, false_or, or_false, true_imp_iff, false_imp_iff, not_true_eq_false, not_false_eq_true, jif0, jif1, jifb, ltT, ltF, leT, leF, eqT, eqF, jlt, jle, jeq, jlt0, jle0, jeq0, jge0, jgt0, jinB, jnat, clt, cle, ceq, cgt, cge, lI_add, lI_sub, lI_mul, jadd, jsub, jmul, jneg, jtol, b010, b011, pv_2t, Int.toNat_natCast, Option.some.injEq, exists_eq_left', if_true, if_false]
    refine vs_ok 2 ?_
    rw [show ((gRes 187).drop 7).take 2 = [.lload 0, .lreturn] from rfl]
    simp (disch := omega) only [vs_lreturn, vs_lload0, vs_nil, gv_0, gv_1, gv_2, gv_3, pv_0, pv_1, va_rf_s, Nat.reduceDiv, Nat.reduceMod, Nat.reduceAdd, Nat.reduceMul, Int.reduceToNat, true_and, and_true, and_self, cP_eq, cP_ne, cP_lt, cP_ge, cP_gt, cP_le, eL_i, eL_l, eL_r, eL_n, Option.toList_none, Option.toList_some, List.nil_append, List.cons_append, kkI, llI, nnI, rrI, jjI, kkJ, llJ, nnJ, rrJ, iiJ, zIIs, zJJs, nEF, nET, and_false, false_and, jmin, jmax, catS_n, catS_i, catS_r, catS_l, Nat.reduceLeDiff, j1eq1, n21, jt0, jt1, Bool.false_eq_true, Classical.not_not, true_or, or_true, false_or, or_false, true_imp_iff, false_imp_iff, not_true_eq_false, not_false_eq_true, jif0, jif1, jifb, ltT, ltF, leT, leF, eqT, eqF, jlt, jle, jeq, jlt0, jle0, jeq0, jge0, jgt0, jinB, jnat, clt, cle, ceq, cgt, cge, lI_add, lI_sub, lI_mul, jadd, jsub, jmul, jneg, jtol, b010, b011, pv_2t, Int.toNat_natCast, Option.some.injEq, exists_eq_left', if_true, if_false, show gRc 187 = 3 from rfl]
    exact hq
/-- g is h but for the Model's `thrown` -/
abbrev mt0 (h g : Hp) (m : Nat) (x : Int) : Prop := fi (fun q => q = m) h g ∧ (∀ i, i ≠ 0 → zI g m i = zI h m i) ∧ zI g m 0 = iI x
theorem mt0_s {h : Hp} {m : Nat} (x : Int) : mt0 h (zsI h m 0 (iI x)) m x := ⟨fi_I rfl, fun i hi => by rw [zI_s, if_neg fun z => hi z.2], by rw [zI_s, if_pos ⟨rfl, rfl⟩]⟩
theorem t_M_thrown {d : Nat} {h : Hp} {m : Nat} {x : Int} {Q : Nat → Option Value → Hp → Prop} (hm : mO h m) (hx : zI h m 0 = iI x) (hq : Q 0 (some (.int (iI x))) h) : PR d m_M_thrown [.ref m] h Q := by
  have M := hm.k
  show PW d 180 0 [some (.ref m)] [] h Q
  refine vs_ok 3 ?_
  rw [show ((gRes 180).drop 0).take 3 = [.aload 0, .getfield 12000, .ireturn] from rfl]
  simp (disch := omega) only [vs_getfield, vs_ireturn, vs_aload0, vs_nil, gv_0, gv_1, gv_2, gv_3, pv_0, pv_1, va_rf_s, Nat.reduceDiv, Nat.reduceMod, Nat.reduceAdd, Nat.reduceMul, Int.reduceToNat, true_and, and_true, and_self, cP_eq, cP_ne, cP_lt, cP_ge, cP_gt, cP_le, eL_i, eL_l, eL_r, eL_n, Option.toList_none, Option.toList_some, List.nil_append, List.cons_append, kkI, llI, nnI, rrI, jjI, kkJ, llJ, nnJ, rrJ, iiJ, zIIs, zJJs, nEF, nET, and_false, false_and, jmin, jmax, catS_n, catS_i, catS_r, catS_l, Nat.reduceLeDiff, j1eq1, n21, jt0, jt1, Bool.false_eq_true, Classical.not_not, true_or, or_true, false_or, or_false, true_imp_iff, false_imp_iff, not_true_eq_false, not_false_eq_true, jif0, jif1, jifb, ltT, ltF, leT, leF, eqT, eqF, jlt, jle, jeq, jlt0, jle0, jeq0, jge0, jgt0, jinB, jnat, clt, cle, ceq, cgt, cge, lI_add, lI_sub, lI_mul, jadd, jsub, jmul, jneg, jtol, b010, b011, pv_2t, Int.toNat_natCast, Option.some.injEq, exists_eq_left', if_true, if_false, M, hx, show gRc 180 = 1 from rfl]
  exact hq
theorem t_M_throwsIf {d : Nat} {h : Hp} {m : Nat} {b : Int} {Q : Nat → Option Value → Hp → Prop} (hm : mO h m) (hb : b = 0 ∨ b = 1) (hq : ∀ g, mt0 h g m b → Q 0 (some (.int (iI b))) g) : PR d m_M_throwsIf [.ref m, .int (iI b)] h Q := by
  have M := hm.k
  show PW d 181 0 [some (.ref m), some (.int (iI b))] [] h Q
  rcases hb with rfl | rfl
  · refine vs_ok 3 ?_
    rw [show ((gRes 181).drop 0).take 3 = [.aload 0, .iload 1, .ifCond .eq 5] from rfl]
    simp (disch := omega) only [vs_ifCond, vs_aload0, vs_iload1, vs_nil, gv_0, gv_1, gv_2, gv_3, pv_0, pv_1, va_rf_s, Nat.reduceDiv, Nat.reduceMod, Nat.reduceAdd, Nat.reduceMul, Int.reduceToNat, true_and, and_true, and_self, cP_eq, cP_ne, cP_lt, cP_ge, cP_gt, cP_le, eL_i, eL_l, eL_r, eL_n, Option.toList_none, Option.toList_some, List.nil_append, List.cons_append, kkI, llI, nnI, rrI, jjI, kkJ, llJ, nnJ, rrJ, iiJ, zIIs, zJJs, nEF, nET, and_false, false_and, jmin, jmax, catS_n, catS_i, catS_r, catS_l, Nat.reduceLeDiff, j1eq1, n21, jt0, jt1, Bool.false_eq_true, Classical.not_not, true_or, or_true, false_or, or_false, true_imp_iff, false_imp_iff, not_true_eq_false, not_false_eq_true, jif0, jif1, jifb, ltT, ltF, leT, leF, eqT, eqF, jlt, jle, jeq, jlt0, jle0, jeq0, jge0, jgt0, jinB, jnat, clt, cle, ceq, cgt, cge, lI_add, lI_sub, lI_mul, jadd, jsub, jmul, jneg, jtol, b010, b011, pv_2t, Int.toNat_natCast, Option.some.injEq, exists_eq_left', if_true, if_false]
    refine vs_ok 4 ?_
    rw [show ((gRes 181).drop 5).take 4 = [.iconst 0, .putfield 12000, .iload 1, .ireturn] from rfl]
    simp (disch := omega) only [vs_iconst, vs_putfield, vs_ireturn, vs_iload1, vs_nil, gv_0, gv_1, gv_2, gv_3, pv_0, pv_1, va_rf_s, Nat.reduceDiv, Nat.reduceMod, Nat.reduceAdd, Nat.reduceMul, Int.reduceToNat, true_and, and_true, and_self, cP_eq, cP_ne, cP_lt, cP_ge, cP_gt, cP_le, eL_i, eL_l, eL_r, eL_n, Option.toList_none, Option.toList_some, List.nil_append, List.cons_append, kkI, llI, nnI, rrI, jjI, kkJ, llJ, nnJ, rrJ, iiJ, zIIs, zJJs, nEF, nET, and_false, false_and, jmin, jmax, catS_n, catS_i, catS_r, catS_l, Nat.reduceLeDiff, j1eq1, n21, jt0, jt1, Bool.false_eq_true, Classical.not_not, true_or, or_true, false_or, or_false, true_imp_iff, false_imp_iff, not_true_eq_false, not_false_eq_true, jif0, jif1, jifb, ltT, ltF, leT, leF, eqT, eqF, jlt, jle, jeq, jlt0, jle0, jeq0, jge0, jgt0, jinB, jnat, clt, cle, ceq, cgt, cge, lI_add, lI_sub, lI_mul, jadd, jsub, jmul, jneg, jtol, b010, b011, pv_2t, Int.toNat_natCast, Option.some.injEq, exists_eq_left', if_true, if_false, M, show gRc 181 = 2 from rfl]
    exact hq _ (mt0_s 0)
  · refine vs_ok 5 ?_
    rw [show ((gRes 181).drop 0).take 5 = [.aload 0, .iload 1, .ifCond .eq 5, .iconst 1, .goto 6] from rfl]
    simp (disch := omega) only [vs_iconst, vs_goto, vs_ifCond, vs_aload0, vs_iload1, vs_nil, gv_0, gv_1, gv_2, gv_3, pv_0, pv_1, va_rf_s, Nat.reduceDiv, Nat.reduceMod, Nat.reduceAdd, Nat.reduceMul, Int.reduceToNat, true_and, and_true, and_self, cP_eq, cP_ne, cP_lt, cP_ge, cP_gt, cP_le, eL_i, eL_l, eL_r, eL_n, Option.toList_none, Option.toList_some, List.nil_append, List.cons_append, kkI, llI, nnI, rrI, jjI, kkJ, llJ, nnJ, rrJ, iiJ, zIIs, zJJs, nEF, nET, and_false, false_and, jmin, jmax, catS_n, catS_i, catS_r, catS_l, Nat.reduceLeDiff, j1eq1, n21, jt0, jt1, Bool.false_eq_true, Classical.not_not, true_or, or_true, false_or, or_false, true_imp_iff, false_imp_iff, not_true_eq_false, not_false_eq_true, jif0, jif1, jifb, ltT, ltF, leT, leF, eqT, eqF, jlt, jle, jeq, jlt0, jle0, jeq0, jge0, jgt0, jinB, jnat, clt, cle, ceq, cgt, cge, lI_add, lI_sub, lI_mul, jadd, jsub, jmul, jneg, jtol, b010, b011, pv_2t, Int.toNat_natCast, Option.some.injEq, exists_eq_left', if_true, if_false]
    refine vs_ok 3 ?_
    rw [show ((gRes 181).drop 6).take 3 = [.putfield 12000, .iload 1, .ireturn] from rfl]
    simp (disch := omega) only [vs_putfield, vs_ireturn, vs_iload1, vs_nil, gv_0, gv_1, gv_2, gv_3, pv_0, pv_1, va_rf_s, Nat.reduceDiv, Nat.reduceMod, Nat.reduceAdd, Nat.reduceMul, Int.reduceToNat, true_and, and_true, and_self, cP_eq, cP_ne, cP_lt, cP_ge, cP_gt, cP_le, eL_i, eL_l, eL_r, eL_n, Option.toList_none, Option.toList_some, List.nil_append, List.cons_append, kkI, llI, nnI, rrI, jjI, kkJ, llJ, nnJ, rrJ, iiJ, zIIs, zJJs, nEF, nET, and_false, false_and, jmin, jmax, catS_n, catS_i, catS_r, catS_l, Nat.reduceLeDiff, j1eq1, n21, jt0, jt1, Bool.false_eq_true, Classical.not_not, true_or, or_true, false_or, or_false, true_imp_iff, false_imp_iff, not_true_eq_false, not_false_eq_true, jif0, jif1, jifb, ltT, ltF, leT, leF, eqT, eqF, jlt, jle, jeq, jlt0, jle0, jeq0, jge0, jgt0, jinB, jnat, clt, cle, ceq, cgt, cge, lI_add, lI_sub, lI_mul, jadd, jsub, jmul, jneg, jtol, b010, b011, pv_2t, Int.toNat_natCast, Option.some.injEq, exists_eq_left', if_true, if_false, M, show gRc 181 = 2 from rfl]
    exact hq _ (mt0_s 1)
theorem t_M_is {d : Nat} {h : Hp} {m nm : Nat} {k : Int} {Q : Nat → Option Value → Hp → Prop} (hm : mO h m) (hn : zI h (m + 7) 0 = iI nm) (hb : nm ≤ 12) (hk : i32 k) (hq : Q 0 (some (.int (iI (if 0 ≤ k ∧ k < nm then 1 else 0)))) h) : PR (d + 1) m_M_is [.ref m, .int (iI k)] h Q := by
  have M := hm.k
  have A := hm.nameMany
  show PW (d + 1) 214 0 [some (.ref m), some (.int (iI k))] [] h Q
  refine vs_ok 8 ?_
  rw [show ((gRes 214).drop 0).take 8 = [.iload 1, .iconst 0, .aload 0, .getfield 12112, .iconst 0, .iaload, .iconst 1, .isub] from rfl]
  simp (disch := omega) only [vs_isub, vs_iconst, vs_getfield, vs_iaload, vs_aload0, vs_iload1, vs_nil, gv_0, gv_1, gv_2, gv_3, pv_0, pv_1, va_rf_s, Nat.reduceDiv, Nat.reduceMod, Nat.reduceAdd, Nat.reduceMul, Int.reduceToNat, true_and, and_true, and_self, cP_eq, cP_ne, cP_lt, cP_ge, cP_gt, cP_le, eL_i, eL_l, eL_r, eL_n, Option.toList_none, Option.toList_some, List.nil_append, List.cons_append, kkI, llI, nnI, rrI, jjI, kkJ, llJ, nnJ, rrJ, iiJ, zIIs, zJJs, nEF, nET, and_false, false_and, jmin, jmax, catS_n, catS_i, catS_r, catS_l, Nat.reduceLeDiff, j1eq1, n21, jt0, jt1, Bool.false_eq_true, Classical.not_not, true_or, or_true, false_or, or_false, true_imp_iff, false_imp_iff, not_true_eq_false, not_false_eq_true, jif0, jif1, jifb, ltT, ltF, leT, leF, eqT, eqF, jlt, jle, jeq, jlt0, jle0, jeq0, jge0, jgt0, jinB, jnat, clt, cle, ceq, cgt, cge, lI_add, lI_sub, lI_mul, jadd, jsub, jmul, jneg, jtol, b010, b011, pv_2t, Int.toNat_natCast, Option.some.injEq, exists_eq_left', if_true, if_false, M, A, hn]
  refine PW.ss (r := []) rfl (le_b rfl) rfl rfl (le_b rfl) (le_b rfl) ?_
  refine t_M_isIn hk (by constructor <;> omega) (by constructor <;> omega) ⟨rfl, ⟨rfl, rfl⟩, ?_⟩
  by_cases c : 0 ≤ k ∧ k < nm
  · rw [if_pos (show 0 ≤ k ∧ k ≤ (nm : Int) - 1 by omega)]
    rw [if_pos c] at hq
    refine vs_ok 1 ?_
    rw [show ((gRes 214).drop 9).take 1 = [.ireturn] from rfl]
    simp (disch := omega) only [vs_ireturn, vs_nil, gv_0, gv_1, gv_2, gv_3, pv_0, pv_1, va_rf_s, Nat.reduceDiv, Nat.reduceMod, Nat.reduceAdd, Nat.reduceMul, Int.reduceToNat, true_and, and_true, and_self, cP_eq, cP_ne, cP_lt, cP_ge, cP_gt, cP_le, eL_i, eL_l, eL_r, eL_n, Option.toList_none, Option.toList_some, List.nil_append, List.cons_append, kkI, llI, nnI, rrI, jjI, kkJ, llJ, nnJ, rrJ, iiJ, zIIs, zJJs, nEF, nET, and_false, false_and, jmin, jmax, catS_n, catS_i, catS_r, catS_l, Nat.reduceLeDiff, j1eq1, n21, jt0, jt1, Bool.false_eq_true, Classical.not_not, true_or, or_true, false_or, or_false, true_imp_iff, false_imp_iff, not_true_eq_false, not_false_eq_true, jif0, jif1, jifb, ltT, ltF, leT, leF, eqT, eqF, jlt, jle, jeq, jlt0, jle0, jeq0, jge0, jgt0, jinB, jnat, clt, cle, ceq, cgt, cge, lI_add, lI_sub, lI_mul, jadd, jsub, jmul, jneg, jtol, b010, b011, pv_2t, Int.toNat_natCast, Option.some.injEq, exists_eq_left', if_true, if_false, show gRc 214 = 2 from rfl]
    exact hq
  · rw [if_neg (show ¬ (0 ≤ k ∧ k ≤ (nm : Int) - 1) by omega)]
    rw [if_neg c] at hq
    refine vs_ok 1 ?_
    rw [show ((gRes 214).drop 9).take 1 = [.ireturn] from rfl]
    simp (disch := omega) only [vs_ireturn, vs_nil, gv_0, gv_1, gv_2, gv_3, pv_0, pv_1, va_rf_s, Nat.reduceDiv, Nat.reduceMod, Nat.reduceAdd, Nat.reduceMul, Int.reduceToNat, true_and, and_true, and_self, cP_eq, cP_ne, cP_lt, cP_ge, cP_gt, cP_le, eL_i, eL_l, eL_r, eL_n, Option.toList_none, Option.toList_some, List.nil_append, List.cons_append, kkI, llI, nnI, rrI, jjI, kkJ, llJ, nnJ, rrJ, iiJ, zIIs, zJJs, nEF, nET, and_false, false_and, jmin, jmax, catS_n, catS_i, catS_r, catS_l, Nat.reduceLeDiff, j1eq1, n21, jt0, jt1, Bool.false_eq_true, Classical.not_not, true_or, or_true, false_or, or_false, true_imp_iff, false_imp_iff, not_true_eq_false, not_false_eq_true, jif0, jif1, jifb, ltT, ltF, leT, leF, eqT, eqF, jlt, jle, jeq, jlt0, jle0, jeq0, jge0, jgt0, jinB, jnat, clt, cle, ceq, cgt, cge, lI_add, lI_sub, lI_mul, jadd, jsub, jmul, jneg, jtol, b010, b011, pv_2t, Int.toNat_natCast, Option.some.injEq, exists_eq_left', if_true, if_false, show gRc 214 = 2 from rfl]
    exact hq
/-- a byte as an array of bytes keeps it -/
def mbS (b : Int) : Int32 := iI (if b < 128 then b else b - 256)
set_option maxRecDepth 100000 in
theorem mbS_and : ∀ b : Nat, b < 256 → mbS b &&& Int32.ofInt 255 = iI b := by decide +kernel
theorem mbS_andI {b : Int} (hb : 0 ≤ b ∧ b ≤ 255) : mbS b &&& Int32.ofInt 255 = Int32.ofInt b := by
  obtain ⟨n, rfl⟩ : ∃ n : Nat, b = n := ⟨b.toNat, by omega⟩
  exact mbS_and n (by omega)
theorem jshrI {v : Int} (hv : i32 v) {k : Nat} (hk : k < 32) : (Int32.ofInt v >>> (Int32.ofInt (k : Int) &&& 31)).toInt = v / 2 ^ k := by
  show ((Int32.ofInt v >>> (Int32.ofInt (k : Int) &&& 31)).toBitVec).toInt = _
  rw [Int32.toBitVec_shiftRight, s31 k hk, BitVec.toInt_sshiftRight', BitVec.toNat_ofNat, Nat.mod_eq_of_lt (show k < 2 ^ 32 by omega)]
  show (Int32.ofInt v).toInt >>> k = _
  rw [iI_toInt hv, Int.shiftRight_eq_div_pow]
  rfl
theorem i8_8 (x : Int32) : x.toInt8.toInt32.toInt = (if x.toInt % 256 < 128 then x.toInt % 256 else x.toInt % 256 - 256) := by
  rw [Int8.toInt_toInt32, Int32.toInt_toInt8, Int.bmod_def]
  rfl
theorem nar_b {v : Int} (hv : i32 v) {k : Nat} (hk : k < 32) : vp_nar .byte ((Int32.ofInt v >>> (Int32.ofInt (k : Int) &&& 31)).toInt8.toInt32) = mbS (by4 v k) := by
  show (((Int32.ofInt v >>> (Int32.ofInt (k : Int) &&& 31)).toInt8.toInt32).toInt8.toInt32) = _
  apply Int32.toInt_inj.mp
  have e := jshrI hv hk
  rw [i8_8, i8_8, e]
  unfold mbS by4
  have b : 0 ≤ v / 2 ^ k % 256 ∧ v / 2 ^ k % 256 < 256 := ⟨Int.emod_nonneg _ (by omega), Int.emod_lt_of_pos _ (by omega)⟩
  generalize v / 2 ^ k % 256 = u at *
  rw [iI_toInt (by split <;> constructor <;> omega)]
  split <;> (split <;> omega)
/-- the Model's tape: the first len bytes of B -/
def mtS (h : Hp) (m len : Nat) (B : Nat → Int) : Prop := zI h m 2 = iI len ∧ len ≤ 540 ∧ (∀ i, i < 540 → zI h (m + 1) i = mbS (B i)) ∧ ∀ i, 0 ≤ B i ∧ B i ≤ 255
theorem mtS.fi {S : Nat → Prop} {h g : Hp} {m len : Nat} {B : Nat → Int} (t : mtS h m len B) (f : fi S h g) (h2 : zI g m 2 = zI h m 2) (h1 : ¬ S (m + 1)) : mtS g m len B :=
  ⟨by rw [h2]; exact t.1, t.2.1, fun i hi => by rw [f.1.2.2.2.2.2.1 _ h1]; exact t.2.2.1 i hi, t.2.2.2⟩
theorem t_M_octet {d : Nat} {h : Hp} {m len k : Nat} {B : Nat → Int} {Q : Nat → Option Value → Hp → Prop} (hm : mO h m) (ht : mtS h m len B) (hk : k < 540) (hq : Q 0 (some (.int (iI (B k)))) h) : PR d m_M_octet [.ref m, .int (iI k)] h Q := by
  have M := hm.k
  have A := hm.tape
  have v := ht.2.2.1 k hk
  have b := mbS_andI (ht.2.2.2 k)
  show PW d 188 0 [some (.ref m), some (.int (iI k))] [] h Q
  refine vs_ok 7 ?_
  rw [show ((gRes 188).drop 0).take 7 = [.aload 0, .getfield 12012, .iload 1, .baload, .iconst 255, .iand, .ireturn] from rfl]
  simp (disch := omega) only [vs_iconst, vs_getfield, vs_ireturn, vs_aload0, vs_iload1, vs_nil, gv_0, gv_1, gv_2, gv_3, pv_0, pv_1, va_rf_s, vs_iand, vs_baload, Nat.reduceDiv, Nat.reduceMod, Nat.reduceAdd, Nat.reduceMul, Int.reduceToNat, true_and, and_true, and_self, cP_eq, cP_ne, cP_lt, cP_ge, cP_gt, cP_le, eL_i, eL_l, eL_r, eL_n, Option.toList_none, Option.toList_some, List.nil_append, List.cons_append, kkI, llI, nnI, rrI, jjI, kkJ, llJ, nnJ, rrJ, iiJ, zIIs, zJJs, nEF, nET, and_false, false_and, jmin, jmax, catS_n, catS_i, catS_r, catS_l, Nat.reduceLeDiff, j1eq1, n21, jt0, jt1, Bool.false_eq_true, Classical.not_not, true_or, or_true, false_or, or_false, true_imp_iff, false_imp_iff, not_true_eq_false, not_false_eq_true, jif0, jif1, jifb, ltT, ltF, leT, leF, eqT, eqF, jlt, jle, jeq, jlt0, jle0, jeq0, jge0, jgt0, jinB, jnat, clt, cle, ceq, cgt, cge, lI_add, lI_sub, lI_mul, jadd, jsub, jmul, jneg, jtol, b010, b011, pv_2t, Int.toNat_natCast, Option.some.injEq, exists_eq_left', if_true, if_false, M, A, v, b, true_or, show gRc 188 = 1 from rfl]
  exact hq
theorem t_M_taken {d : Nat} {h : Hp} {m len : Nat} {B : Nat → Int} {Q : Nat → Option Value → Hp → Prop} (hm : mO h m) (ht : mtS h m len B) (hq : ∀ g, fi (fun q => q = m) h g → mtS g m 0 B → zI g m 3 = iI len → zI g m 4 = iI 0 → (∀ i, i ≠ 2 → i ≠ 3 → i ≠ 4 → zI g m i = zI h m i) → Q 0 none g) : PR d m_M_taken [.ref m] h Q := by
  have M := hm.k
  obtain ⟨t1, t2, t3, t4⟩ := ht
  show PW d 185 0 [some (.ref m)] [] h Q
  refine vs_ok 11 ?_
  rw [show ((gRes 185).drop 0).take 11 = [.aload 0, .aload 0, .getfield 12020, .putfield 12030, .aload 0, .iconst 0, .putfield 12020, .aload 0, .iconst 0, .putfield 12040, .return_] from rfl]
  simp (disch := omega) only [vs_iconst, vs_getfield, vs_putfield, vs_return_, vs_aload0, vs_nil, gv_0, gv_1, gv_2, gv_3, pv_0, pv_1, va_rf_s, Nat.reduceDiv, Nat.reduceMod, Nat.reduceAdd, Nat.reduceMul, Int.reduceToNat, true_and, and_true, and_self, cP_eq, cP_ne, cP_lt, cP_ge, cP_gt, cP_le, eL_i, eL_l, eL_r, eL_n, Option.toList_none, Option.toList_some, List.nil_append, List.cons_append, kkI, llI, nnI, rrI, jjI, kkJ, llJ, nnJ, rrJ, iiJ, zIIs, zJJs, nEF, nET, and_false, false_and, jmin, jmax, catS_n, catS_i, catS_r, catS_l, Nat.reduceLeDiff, j1eq1, n21, jt0, jt1, Bool.false_eq_true, Classical.not_not, true_or, or_true, false_or, or_false, true_imp_iff, false_imp_iff, not_true_eq_false, not_false_eq_true, jif0, jif1, jifb, ltT, ltF, leT, leF, eqT, eqF, jlt, jle, jeq, jlt0, jle0, jeq0, jge0, jgt0, jinB, jnat, clt, cle, ceq, cgt, cge, lI_add, lI_sub, lI_mul, jadd, jsub, jmul, jneg, jtol, b010, b011, pv_2t, Int.toNat_natCast, Option.some.injEq, exists_eq_left', if_true, if_false, M, t1, show gRc 185 = 0 from rfl]
  refine hq _ (((fi_I (S := fun q => q = m) rfl).I rfl).I rfl) ⟨?_, by omega, fun i hi => ?_, t4⟩ ?_ ?_ fun i h2 h3 h4 => ?_
  · rw [zI_s, if_neg (by omega), zI_s, if_pos ⟨rfl, rfl⟩]
    rfl
  · rw [zI_s, if_neg (by omega), zI_s, if_neg (by omega), zI_s, if_neg (by omega)]
    exact t3 i hi
  · rw [zI_s, if_neg (by omega), zI_s, if_neg (by omega), zI_s, if_pos ⟨rfl, rfl⟩]
  · rw [zI_s, if_pos ⟨rfl, rfl⟩]
  · rw [zI_s, if_neg (by omega), zI_s, if_neg (by omega), zI_s, if_neg (by omega)]
theorem t_M_end {d : Nat} {h : Hp} {m len : Nat} {B : Nat → Int} {n : Int} {Q : Nat → Option Value → Hp → Prop} (hm : mO h m) (ht : mtS h m len B) (hn : i32 n) (h0 : ¬ (0 ≤ n ∧ n ≤ len) → ∀ g, mt0 h g m 0 → Q 0 (some (.int (iI 0))) g) (h1 : 0 ≤ n ∧ n ≤ len → ∀ g, fi (fun q => q = m) h g → mtS g m n.toNat B → zI g m 0 = iI 0 → (∀ i, i ≠ 0 → i ≠ 2 → zI g m i = zI h m i) → Q 0 (some (.int (iI 1))) g) : PR d m_M_end [.ref m, .int (iI n)] h Q := by
  have M := hm.k
  obtain ⟨t1, t2, t3, t4⟩ := ht
  have n1 := hn.1
  have n2 := hn.2
  have z := mt0_s (h := h) (m := m) 0
  show PW d 184 0 [some (.ref m), some (.int (iI n))] [] h Q
  by_cases c1 : n < 0
  · refine vs_ok 5 ?_
    rw [show ((gRes 184).drop 0).take 5 = [.aload 0, .iconst 0, .putfield 12000, .iload 1, .ifCond .lt 9] from rfl]
    simp (disch := omega) only [vs_iconst, vs_ifCond, vs_putfield, vs_aload0, vs_iload1, vs_nil, gv_0, gv_1, gv_2, gv_3, pv_0, pv_1, va_rf_s, Nat.reduceDiv, Nat.reduceMod, Nat.reduceAdd, Nat.reduceMul, Int.reduceToNat, true_and, and_true, and_self, cP_eq, cP_ne, cP_lt, cP_ge, cP_gt, cP_le, eL_i, eL_l, eL_r, eL_n, Option.toList_none, Option.toList_some, List.nil_append, List.cons_append, kkI, llI, nnI, rrI, jjI, kkJ, llJ, nnJ, rrJ, iiJ, zIIs, zJJs, nEF, nET, and_false, false_and, jmin, jmax, catS_n, catS_i, catS_r, catS_l, Nat.reduceLeDiff, j1eq1, n21, jt0, jt1, Bool.false_eq_true, Classical.not_not, true_or, or_true, false_or, or_false, true_imp_iff, false_imp_iff, not_true_eq_false, not_false_eq_true, jif0, jif1, jifb, ltT, ltF, leT, leF, eqT, eqF, jlt, jle, jeq, jlt0, jle0, jeq0, jge0, jgt0, jinB, jnat, clt, cle, ceq, cgt, cge, lI_add, lI_sub, lI_mul, jadd, jsub, jmul, jneg, jtol, b010, b011, pv_2t, Int.toNat_natCast, Option.some.injEq, exists_eq_left', if_true, if_false, M]
    refine vs_ok 2 ?_
    rw [show ((gRes 184).drop 9).take 2 = [.iconst 0, .ireturn] from rfl]
    simp (disch := omega) only [vs_iconst, vs_ireturn, vs_nil, gv_0, gv_1, gv_2, gv_3, pv_0, pv_1, va_rf_s, Nat.reduceDiv, Nat.reduceMod, Nat.reduceAdd, Nat.reduceMul, Int.reduceToNat, true_and, and_true, and_self, cP_eq, cP_ne, cP_lt, cP_ge, cP_gt, cP_le, eL_i, eL_l, eL_r, eL_n, Option.toList_none, Option.toList_some, List.nil_append, List.cons_append, kkI, llI, nnI, rrI, jjI, kkJ, llJ, nnJ, rrJ, iiJ, zIIs, zJJs, nEF, nET, and_false, false_and, jmin, jmax, catS_n, catS_i, catS_r, catS_l, Nat.reduceLeDiff, j1eq1, n21, jt0, jt1, Bool.false_eq_true, Classical.not_not, true_or, or_true, false_or, or_false, true_imp_iff, false_imp_iff, not_true_eq_false, not_false_eq_true, jif0, jif1, jifb, ltT, ltF, leT, leF, eqT, eqF, jlt, jle, jeq, jlt0, jle0, jeq0, jge0, jgt0, jinB, jnat, clt, cle, ceq, cgt, cge, lI_add, lI_sub, lI_mul, jadd, jsub, jmul, jneg, jtol, b010, b011, pv_2t, Int.toNat_natCast, Option.some.injEq, exists_eq_left', if_true, if_false, show gRc 184 = 2 from rfl]
    exact h0 (by omega) _ z
  · by_cases c2 : n ≤ len
    · refine vs_ok 5 ?_
      rw [show ((gRes 184).drop 0).take 5 = [.aload 0, .iconst 0, .putfield 12000, .iload 1, .ifCond .lt 9] from rfl]
      simp (disch := omega) only [vs_iconst, vs_ifCond, vs_putfield, vs_aload0, vs_iload1, vs_nil, gv_0, gv_1, gv_2, gv_3, pv_0, pv_1, va_rf_s, Nat.reduceDiv, Nat.reduceMod, Nat.reduceAdd, Nat.reduceMul, Int.reduceToNat, true_and, and_true, and_self, cP_eq, cP_ne, cP_lt, cP_ge, cP_gt, cP_le, eL_i, eL_l, eL_r, eL_n, Option.toList_none, Option.toList_some, List.nil_append, List.cons_append, kkI, llI, nnI, rrI, jjI, kkJ, llJ, nnJ, rrJ, iiJ, zIIs, zJJs, nEF, nET, and_false, false_and, jmin, jmax, catS_n, catS_i, catS_r, catS_l, Nat.reduceLeDiff, j1eq1, n21, jt0, jt1, Bool.false_eq_true, Classical.not_not, true_or, or_true, false_or, or_false, true_imp_iff, false_imp_iff, not_true_eq_false, not_false_eq_true, jif0, jif1, jifb, ltT, ltF, leT, leF, eqT, eqF, jlt, jle, jeq, jlt0, jle0, jeq0, jge0, jgt0, jinB, jnat, clt, cle, ceq, cgt, cge, lI_add, lI_sub, lI_mul, jadd, jsub, jmul, jneg, jtol, b010, b011, pv_2t, Int.toNat_natCast, Option.some.injEq, exists_eq_left', if_true, if_false, M]
      refine vs_ok 4 ?_
      rw [show ((gRes 184).drop 5).take 4 = [.iload 1, .aload 0, .getfield 12020, .if_icmp .le 11] from rfl]
      simp (disch := omega) only [vs_if_icmp, vs_getfield, vs_aload0, vs_iload1, vs_nil, gv_0, gv_1, gv_2, gv_3, pv_0, pv_1, va_rf_s, Nat.reduceDiv, Nat.reduceMod, Nat.reduceAdd, Nat.reduceMul, Int.reduceToNat, true_and, and_true, and_self, cP_eq, cP_ne, cP_lt, cP_ge, cP_gt, cP_le, eL_i, eL_l, eL_r, eL_n, Option.toList_none, Option.toList_some, List.nil_append, List.cons_append, kkI, llI, nnI, rrI, jjI, kkJ, llJ, nnJ, rrJ, iiJ, zIIs, zJJs, nEF, nET, and_false, false_and, jmin, jmax, catS_n, catS_i, catS_r, catS_l, Nat.reduceLeDiff, j1eq1, n21, jt0, jt1, Bool.false_eq_true, Classical.not_not, true_or, or_true, false_or, or_false, true_imp_iff, false_imp_iff, not_true_eq_false, not_false_eq_true, jif0, jif1, jifb, ltT, ltF, leT, leF, eqT, eqF, jlt, jle, jeq, jlt0, jle0, jeq0, jge0, jgt0, jinB, jnat, clt, cle, ceq, cgt, cge, lI_add, lI_sub, lI_mul, jadd, jsub, jmul, jneg, jtol, b010, b011, pv_2t, Int.toNat_natCast, Option.some.injEq, exists_eq_left', if_true, if_false, M, t1]
      refine vs_ok 5 ?_
      rw [show ((gRes 184).drop 11).take 5 = [.aload 0, .iload 1, .putfield 12020, .iconst 1, .ireturn] from rfl]
      simp (disch := omega) only [vs_iconst, vs_putfield, vs_ireturn, vs_aload0, vs_iload1, vs_nil, gv_0, gv_1, gv_2, gv_3, pv_0, pv_1, va_rf_s, Nat.reduceDiv, Nat.reduceMod, Nat.reduceAdd, Nat.reduceMul, Int.reduceToNat, true_and, and_true, and_self, cP_eq, cP_ne, cP_lt, cP_ge, cP_gt, cP_le, eL_i, eL_l, eL_r, eL_n, Option.toList_none, Option.toList_some, List.nil_append, List.cons_append, kkI, llI, nnI, rrI, jjI, kkJ, llJ, nnJ, rrJ, iiJ, zIIs, zJJs, nEF, nET, and_false, false_and, jmin, jmax, catS_n, catS_i, catS_r, catS_l, Nat.reduceLeDiff, j1eq1, n21, jt0, jt1, Bool.false_eq_true, Classical.not_not, true_or, or_true, false_or, or_false, true_imp_iff, false_imp_iff, not_true_eq_false, not_false_eq_true, jif0, jif1, jifb, ltT, ltF, leT, leF, eqT, eqF, jlt, jle, jeq, jlt0, jle0, jeq0, jge0, jgt0, jinB, jnat, clt, cle, ceq, cgt, cge, lI_add, lI_sub, lI_mul, jadd, jsub, jmul, jneg, jtol, b010, b011, pv_2t, Int.toNat_natCast, Option.some.injEq, exists_eq_left', if_true, if_false, M, show gRc 184 = 2 from rfl]
      refine h1 (by omega) _ ((fi_I (S := fun q => q = m) rfl).I rfl) ⟨?_, by omega, fun i hi => ?_, t4⟩ ?_ fun i i0 i2 => ?_
      · rw [zI_s, if_pos ⟨rfl, rfl⟩, show ((n.toNat : Nat) : Int) = n by omega]
      · rw [zI_s, if_neg (by omega), zI_s, if_neg (by omega)]
        exact t3 i hi
      · rw [zI_s, if_neg (by omega), zI_s, if_pos ⟨rfl, rfl⟩]
      · rw [zI_s, if_neg (by omega), zI_s, if_neg (by omega)]
    · refine vs_ok 5 ?_
      rw [show ((gRes 184).drop 0).take 5 = [.aload 0, .iconst 0, .putfield 12000, .iload 1, .ifCond .lt 9] from rfl]
      simp (disch := omega) only [vs_iconst, vs_ifCond, vs_putfield, vs_aload0, vs_iload1, vs_nil, gv_0, gv_1, gv_2, gv_3, pv_0, pv_1, va_rf_s, Nat.reduceDiv, Nat.reduceMod, Nat.reduceAdd, Nat.reduceMul, Int.reduceToNat, true_and, and_true, and_self, cP_eq, cP_ne, cP_lt, cP_ge, cP_gt, cP_le, eL_i, eL_l, eL_r, eL_n, Option.toList_none, Option.toList_some, List.nil_append, List.cons_append, kkI, llI, nnI, rrI, jjI, kkJ, llJ, nnJ, rrJ, iiJ, zIIs, zJJs, nEF, nET, and_false, false_and, jmin, jmax, catS_n, catS_i, catS_r, catS_l, Nat.reduceLeDiff, j1eq1, n21, jt0, jt1, Bool.false_eq_true, Classical.not_not, true_or, or_true, false_or, or_false, true_imp_iff, false_imp_iff, not_true_eq_false, not_false_eq_true, jif0, jif1, jifb, ltT, ltF, leT, leF, eqT, eqF, jlt, jle, jeq, jlt0, jle0, jeq0, jge0, jgt0, jinB, jnat, clt, cle, ceq, cgt, cge, lI_add, lI_sub, lI_mul, jadd, jsub, jmul, jneg, jtol, b010, b011, pv_2t, Int.toNat_natCast, Option.some.injEq, exists_eq_left', if_true, if_false, M]
      refine vs_ok 4 ?_
      rw [show ((gRes 184).drop 5).take 4 = [.iload 1, .aload 0, .getfield 12020, .if_icmp .le 11] from rfl]
      simp (disch := omega) only [vs_if_icmp, vs_getfield, vs_aload0, vs_iload1, vs_nil, gv_0, gv_1, gv_2, gv_3, pv_0, pv_1, va_rf_s, Nat.reduceDiv, Nat.reduceMod, Nat.reduceAdd, Nat.reduceMul, Int.reduceToNat, true_and, and_true, and_self, cP_eq, cP_ne, cP_lt, cP_ge, cP_gt, cP_le, eL_i, eL_l, eL_r, eL_n, Option.toList_none, Option.toList_some, List.nil_append, List.cons_append, kkI, llI, nnI, rrI, jjI, kkJ, llJ, nnJ, rrJ, iiJ, zIIs, zJJs, nEF, nET, and_false, false_and, jmin, jmax, catS_n, catS_i, catS_r, catS_l, Nat.reduceLeDiff, j1eq1, n21, jt0, jt1, Bool.false_eq_true, Classical.not_not, true_or, or_true, false_or, or_false, true_imp_iff, false_imp_iff, not_true_eq_false, not_false_eq_true, jif0, jif1, jifb, ltT, ltF, leT, leF, eqT, eqF, jlt, jle, jeq, jlt0, jle0, jeq0, jge0, jgt0, jinB, jnat, clt, cle, ceq, cgt, cge, lI_add, lI_sub, lI_mul, jadd, jsub, jmul, jneg, jtol, b010, b011, pv_2t, Int.toNat_natCast, Option.some.injEq, exists_eq_left', if_true, if_false, M, t1]
      refine vs_ok 2 ?_
      rw [show ((gRes 184).drop 9).take 2 = [.iconst 0, .ireturn] from rfl]
      simp (disch := omega) only [vs_iconst, vs_ireturn, vs_nil, gv_0, gv_1, gv_2, gv_3, pv_0, pv_1, va_rf_s, Nat.reduceDiv, Nat.reduceMod, Nat.reduceAdd, Nat.reduceMul, Int.reduceToNat, true_and, and_true, and_self, cP_eq, cP_ne, cP_lt, cP_ge, cP_gt, cP_le, eL_i, eL_l, eL_r, eL_n, Option.toList_none, Option.toList_some, List.nil_append, List.cons_append, kkI, llI, nnI, rrI, jjI, kkJ, llJ, nnJ, rrJ, iiJ, zIIs, zJJs, nEF, nET, and_false, false_and, jmin, jmax, catS_n, catS_i, catS_r, catS_l, Nat.reduceLeDiff, j1eq1, n21, jt0, jt1, Bool.false_eq_true, Classical.not_not, true_or, or_true, false_or, or_false, true_imp_iff, false_imp_iff, not_true_eq_false, not_false_eq_true, jif0, jif1, jifb, ltT, ltF, leT, leF, eqT, eqF, jlt, jle, jeq, jlt0, jle0, jeq0, jge0, jgt0, jinB, jnat, clt, cle, ceq, cgt, cge, lI_add, lI_sub, lI_mul, jadd, jsub, jmul, jneg, jtol, b010, b011, pv_2t, Int.toNat_natCast, Option.some.injEq, exists_eq_left', if_true, if_false, show gRc 184 = 2 from rfl]
      exact h0 (by omega) _ z
theorem t_M_fault {d : Nat} {h : Hp} {m : Nat} {f : Int} {Q : Nat → Option Value → Hp → Prop} (hm : mO h m) (hf : zI h m 21 = iI f) (hq : ∀ g, mt0 h g m 0 → Q 0 (some (.int (iI f))) g) : PR d m_M_fault [.ref m] h Q := by
  have M := hm.k
  show PW d 213 0 [some (.ref m)] [] h Q
  refine vs_ok 6 ?_
  rw [show ((gRes 213).drop 0).take 6 = [.aload 0, .iconst 0, .putfield 12000, .aload 0, .getfield 12210, .ireturn] from rfl]
  simp (disch := omega) only [vs_iconst, vs_getfield, vs_putfield, vs_ireturn, vs_aload0, vs_nil, gv_0, gv_1, gv_2, gv_3, pv_0, pv_1, va_rf_s, Nat.reduceDiv, Nat.reduceMod, Nat.reduceAdd, Nat.reduceMul, Int.reduceToNat, true_and, and_true, and_self, cP_eq, cP_ne, cP_lt, cP_ge, cP_gt, cP_le, eL_i, eL_l, eL_r, eL_n, Option.toList_none, Option.toList_some, List.nil_append, List.cons_append, kkI, llI, nnI, rrI, jjI, kkJ, llJ, nnJ, rrJ, iiJ, zIIs, zJJs, nEF, nET, and_false, false_and, jmin, jmax, catS_n, catS_i, catS_r, catS_l, Nat.reduceLeDiff, j1eq1, n21, jt0, jt1, Bool.false_eq_true, Classical.not_not, true_or, or_true, false_or, or_false, true_imp_iff, false_imp_iff, not_true_eq_false, not_false_eq_true, jif0, jif1, jifb, ltT, ltF, leT, leF, eqT, eqF, jlt, jle, jeq, jlt0, jle0, jeq0, jge0, jgt0, jinB, jnat, clt, cle, ceq, cgt, cge, lI_add, lI_sub, lI_mul, jadd, jsub, jmul, jneg, jtol, b010, b011, pv_2t, Int.toNat_natCast, Option.some.injEq, exists_eq_left', if_true, if_false, M, hf, show gRc 213 = 1 from rfl]
  exact hq _ (mt0_s 0)
theorem t_M_four {d : Nat} {h : Hp} {m len : Nat} {B : Nat → Int} {v : Int} {Q : Nat → Option Value → Hp → Prop} (hm : mO h m) (ht : mtS h m len B) (hv : i32 v) (hl : len + 4 ≤ 540) (hq : ∀ g, fi (fun q => q = m ∨ q = m + 1) h g → mtS g m (len + 4) (feB B len v 4) → (∀ i, i ≠ 2 → zI g m i = zI h m i) → Q 0 none g) : PR d m_M_four [.ref m, .int (iI v)] h Q := by
  show PW d 183 0 [some (.ref m), some (.int (iI v)), none] [] h Q
  have lp : ∀ (j k : Nat) (g : Hp), j + k = 4 → fi (fun q => q = m ∨ q = m + 1) h g → mtS g m (len + k) (feB B len v k) → (∀ i, i ≠ 2 → zI g m i = zI h m i) → PW d 183 2 [some (.ref m), some (.int (iI v)), some (.int (iI (24 - 8 * (k : Int))))] [] g Q := by
    intro j
    induction j with
    | zero =>
      intro k g hj f t e
      have e4 : k = 4 := by omega
      subst e4
      refine vs_ok 2 ?_
      rw [show ((gRes 183).drop 2).take 2 = [.iload 2, .ifCond .lt 21] from rfl]
      simp (disch := omega) only [vs_ifCond, vs_iload2, vs_nil, gv_0, gv_1, gv_2, gv_3, pv_0, pv_1, va_rf_s, Nat.reduceDiv, Nat.reduceMod, Nat.reduceAdd, Nat.reduceMul, Int.reduceToNat, true_and, and_true, and_self, cP_eq, cP_ne, cP_lt, cP_ge, cP_gt, cP_le, eL_i, eL_l, eL_r, eL_n, Option.toList_none, Option.toList_some, List.nil_append, List.cons_append, kkI, llI, nnI, rrI, jjI, kkJ, llJ, nnJ, rrJ, iiJ, zIIs, zJJs, nEF, nET, and_false, false_and, jmin, jmax, catS_n, catS_i, catS_r, catS_l, Nat.reduceLeDiff, j1eq1, n21, jt0, jt1, Bool.false_eq_true, Classical.not_not, true_or, or_true, false_or, or_false, true_imp_iff, false_imp_iff, not_true_eq_false, not_false_eq_true, jif0, jif1, jifb, ltT, ltF, leT, leF, eqT, eqF, jlt, jle, jeq, jlt0, jle0, jeq0, jge0, jgt0, jinB, jnat, clt, cle, ceq, cgt, cge, lI_add, lI_sub, lI_mul, jadd, jsub, jmul, jneg, jtol, b010, b011, pv_2t, Int.toNat_natCast, Option.some.injEq, exists_eq_left', if_true, if_false]
      refine vs_ok 1 ?_
      rw [show ((gRes 183).drop 21).take 1 = [.return_] from rfl]
      simp (disch := omega) only [vs_return_, vs_nil, gv_0, gv_1, gv_2, gv_3, pv_0, pv_1, va_rf_s, Nat.reduceDiv, Nat.reduceMod, Nat.reduceAdd, Nat.reduceMul, Int.reduceToNat, true_and, and_true, and_self, cP_eq, cP_ne, cP_lt, cP_ge, cP_gt, cP_le, eL_i, eL_l, eL_r, eL_n, Option.toList_none, Option.toList_some, List.nil_append, List.cons_append, kkI, llI, nnI, rrI, jjI, kkJ, llJ, nnJ, rrJ, iiJ, zIIs, zJJs, nEF, nET, and_false, false_and, jmin, jmax, catS_n, catS_i, catS_r, catS_l, Nat.reduceLeDiff, j1eq1, n21, jt0, jt1, Bool.false_eq_true, Classical.not_not, true_or, or_true, false_or, or_false, true_imp_iff, false_imp_iff, not_true_eq_false, not_false_eq_true, jif0, jif1, jifb, ltT, ltF, leT, leF, eqT, eqF, jlt, jle, jeq, jlt0, jle0, jeq0, jge0, jgt0, jinB, jnat, clt, cle, ceq, cgt, cge, lI_add, lI_sub, lI_mul, jadd, jsub, jmul, jneg, jtol, b010, b011, pv_2t, Int.toNat_natCast, Option.some.injEq, exists_eq_left', if_true, if_false, show gRc 183 = 0 from rfl]
      exact hq g f t e
    | succ j ih =>
      intro k g hj f t e
      obtain ⟨hn, hm', hb, hc⟩ := t
      have hg := hm.fi f
      have M := hg.k
      have A := hg.tape
      have hk : (24 - 8 * (k : Int)) = ((24 - 8 * k : Nat) : Int) := by omega
      have fb := feB_b (by
        have := ht.2.2.2
        exact this) len v (k + 1)
      refine vs_ok 2 ?_
      rw [show ((gRes 183).drop 2).take 2 = [.iload 2, .ifCond .lt 21] from rfl]
      simp (disch := omega) only [vs_ifCond, vs_iload2, vs_nil, gv_0, gv_1, gv_2, gv_3, pv_0, pv_1, va_rf_s, Nat.reduceDiv, Nat.reduceMod, Nat.reduceAdd, Nat.reduceMul, Int.reduceToNat, true_and, and_true, and_self, cP_eq, cP_ne, cP_lt, cP_ge, cP_gt, cP_le, eL_i, eL_l, eL_r, eL_n, Option.toList_none, Option.toList_some, List.nil_append, List.cons_append, kkI, llI, nnI, rrI, jjI, kkJ, llJ, nnJ, rrJ, iiJ, zIIs, zJJs, nEF, nET, and_false, false_and, jmin, jmax, catS_n, catS_i, catS_r, catS_l, Nat.reduceLeDiff, j1eq1, n21, jt0, jt1, Bool.false_eq_true, Classical.not_not, true_or, or_true, false_or, or_false, true_imp_iff, false_imp_iff, not_true_eq_false, not_false_eq_true, jif0, jif1, jifb, ltT, ltF, leT, leF, eqT, eqF, jlt, jle, jeq, jlt0, jle0, jeq0, jge0, jgt0, jinB, jnat, clt, cle, ceq, cgt, cge, lI_add, lI_sub, lI_mul, jadd, jsub, jmul, jneg, jtol, b010, b011, pv_2t, Int.toNat_natCast, Option.some.injEq, exists_eq_left', if_true, if_false, hk]
      refine vs_ok 8 ?_
      rw [show ((gRes 183).drop 4).take 8 = [.aload 0, .getfield 12012, .aload 0, .getfield 12020, .iload 1, .iload 2, .ishr, .i2b] from rfl]
      simp (disch := omega) only [vs_getfield, vs_aload0, vs_iload1, vs_iload2, vs_nil, gv_0, gv_1, gv_2, gv_3, pv_0, pv_1, va_rf_s, vs_i2b, vs_ishr, Nat.reduceDiv, Nat.reduceMod, Nat.reduceAdd, Nat.reduceMul, Int.reduceToNat, true_and, and_true, and_self, cP_eq, cP_ne, cP_lt, cP_ge, cP_gt, cP_le, eL_i, eL_l, eL_r, eL_n, Option.toList_none, Option.toList_some, List.nil_append, List.cons_append, kkI, llI, nnI, rrI, jjI, kkJ, llJ, nnJ, rrJ, iiJ, zIIs, zJJs, nEF, nET, and_false, false_and, jmin, jmax, catS_n, catS_i, catS_r, catS_l, Nat.reduceLeDiff, j1eq1, n21, jt0, jt1, Bool.false_eq_true, Classical.not_not, true_or, or_true, false_or, or_false, true_imp_iff, false_imp_iff, not_true_eq_false, not_false_eq_true, jif0, jif1, jifb, ltT, ltF, leT, leF, eqT, eqF, jlt, jle, jeq, jlt0, jle0, jeq0, jge0, jgt0, jinB, jnat, clt, cle, ceq, cgt, cge, lI_add, lI_sub, lI_mul, jadd, jsub, jmul, jneg, jtol, b010, b011, pv_2t, Int.toNat_natCast, Option.some.injEq, exists_eq_left', if_true, if_false, M, A, hn]
      refine PW.bas rfl ⟨A.2.1, A.2.2.1, by rw [A.2.2.2]; exact jinB (by omega) (by omega) (by omega)⟩ ?_
      rw [nar_b hv (show 24 - 8 * k < 32 by omega), jnat (by omega) (by omega)]
      refine vs_ok 8 ?_
      rw [show ((gRes 183).drop 13).take 8 = [.aload 0, .dup, .getfield 12020, .iconst 1, .iadd, .putfield 12020, .iinc 2 (-8), .goto 2] from rfl]
      simp (disch := omega) only [vs_iadd, vs_iconst, vs_goto, vs_getfield, vs_putfield, vs_dupi, vs_dupr, vs_aload0, vs_iinc2n, vs_iinc2i, vs_iinc2r, vs_iinc2l, vs_nil, gv_0, gv_1, gv_2, gv_3, pv_0, pv_1, va_rf_s, Nat.reduceDiv, Nat.reduceMod, Nat.reduceAdd, Nat.reduceMul, Int.reduceToNat, true_and, and_true, and_self, cP_eq, cP_ne, cP_lt, cP_ge, cP_gt, cP_le, eL_i, eL_l, eL_r, eL_n, Option.toList_none, Option.toList_some, List.nil_append, List.cons_append, kkI, llI, nnI, rrI, jjI, kkJ, llJ, nnJ, rrJ, iiJ, zIIs, zJJs, nEF, nET, and_false, false_and, jmin, jmax, catS_n, catS_i, catS_r, catS_l, Nat.reduceLeDiff, j1eq1, n21, jt0, jt1, Bool.false_eq_true, Classical.not_not, true_or, or_true, false_or, or_false, true_imp_iff, false_imp_iff, not_true_eq_false, not_false_eq_true, jif0, jif1, jifb, ltT, ltF, leT, leF, eqT, eqF, jlt, jle, jeq, jlt0, jle0, jeq0, jge0, jgt0, jinB, jnat, clt, cle, ceq, cgt, cge, lI_add, lI_sub, lI_mul, jadd, jsub, jmul, jneg, jtol, b010, b011, pv_2t, Int.toNat_natCast, Option.some.injEq, exists_eq_left', if_true, if_false, M, hn]
      refine (show PW d 183 2 [some (.ref m), some (.int (iI v)), some (.int (iI (24 - 8 * ((k + 1 : Nat) : Int))))] [] _ Q → PW d 183 2 [some (.ref m), some (.int (iI v)), some (.int (iI (((24 - 8 * k : Nat) : Int) + -8)))] [] _ Q from fun z => by rw [show ((24 - 8 * k : Nat) : Int) + -8 = 24 - 8 * ((k + 1 : Nat) : Int) by omega]; exact z) ?_
      refine ih (k + 1) _ (by omega) ((f.I (Or.inr rfl)).I (Or.inl rfl)) ⟨?_, by omega, fun i hi => ?_, fb⟩ fun i hi => ?_
      · rw [zI_s, if_pos ⟨rfl, rfl⟩]
        exact congrArg _ (by omega)
      · rw [zI_s, if_neg fun z => absurd z.1 (by omega), zI_s, feB_s]
        by_cases c : i = len + k
        · rw [if_pos ⟨rfl, by omega⟩, if_pos c]
        · rw [if_neg fun z => c (by omega), if_neg c]
          exact hb i hi
      · rw [zI_s, if_neg fun z => hi z.2, zI_s, if_neg fun z => absurd z.1 (by omega)]
        exact e i hi
  refine vs_ok 2 ?_
  rw [show ((gRes 183).drop 0).take 2 = [.iconst 24, .istore 2] from rfl]
  simp (disch := omega) only [vs_iconst, vs_istore2n, vs_istore2i, vs_istore2r, vs_istore2l, vs_nil, gv_0, gv_1, gv_2, gv_3, pv_0, pv_1, va_rf_s, Nat.reduceDiv, Nat.reduceMod, Nat.reduceAdd, Nat.reduceMul, Int.reduceToNat, true_and, and_true, and_self, cP_eq, cP_ne, cP_lt, cP_ge, cP_gt, cP_le, eL_i, eL_l, eL_r, eL_n, Option.toList_none, Option.toList_some, List.nil_append, List.cons_append, kkI, llI, nnI, rrI, jjI, kkJ, llJ, nnJ, rrJ, iiJ, zIIs, zJJs, nEF, nET, and_false, false_and, jmin, jmax, catS_n, catS_i, catS_r, catS_l, Nat.reduceLeDiff, j1eq1, n21, jt0, jt1, Bool.false_eq_true, Classical.not_not, true_or, or_true, false_or, or_false, true_imp_iff, false_imp_iff, not_true_eq_false, not_false_eq_true, jif0, jif1, jifb, ltT, ltF, leT, leF, eqT, eqF, jlt, jle, jeq, jlt0, jle0, jeq0, jge0, jgt0, jinB, jnat, clt, cle, ceq, cgt, cge, lI_add, lI_sub, lI_mul, jadd, jsub, jmul, jneg, jtol, b010, b011, pv_2t, Int.toNat_natCast, Option.some.injEq, exists_eq_left', if_true, if_false]
  exact lp 4 0 h rfl fi.rf (by rw [feB_0]; exact ht) fun i hi => rfl
theorem t_M_feed {d : Nat} {h : Hp} {m len : Nat} {B : Nat → Int} {a b c e f : Int} {Q : Nat → Option Value → Hp → Prop} (hm : mO h m) (ht : mtS h m len B) (ha : i32 a) (hb : i32 b) (hc : i32 c) (he : i32 e) (hf : i32 f) (h0 : 520 < len → ∀ g, mt0 h g m 0 → Q 0 (some (.int (iI (-1)))) g) (h1 : len ≤ 520 → ∀ g, fi (fun q => q = m ∨ q = m + 1) h g → mtS g m (len + 20) (fe5 B len a b c e f) → zI g m 0 = iI 0 → (∀ i, i ≠ 0 → i ≠ 2 → zI g m i = zI h m i) → Q 0 (some (.int (iI ((len + 20 : Nat) : Int)))) g) : PR (d + 1) m_M_feed [.ref m, .int (iI a), .int (iI b), .int (iI c), .int (iI e), .int (iI f)] h Q := by
  have M := hm.k
  have t2 := ht.1
  have hl := ht.2.1
  have z := mt0_s (h := h) (m := m) 0
  show PW (d + 1) 182 0 [some (.ref m), some (.int (iI a)), some (.int (iI b)), some (.int (iI c)), some (.int (iI e)), some (.int (iI f))] [] h Q
  by_cases c1 : len ≤ 520
  · refine vs_ok 9 ?_
    rw [show ((gRes 182).drop 0).take 9 = [.aload 0, .iconst 0, .putfield 12000, .aload 0, .getfield 12020, .iconst 20, .iadd, .iconst 540, .if_icmp .le 11] from rfl]
    simp (disch := omega) only [vs_iadd, vs_iconst, vs_if_icmp, vs_getfield, vs_putfield, vs_aload0, vs_nil, gv_0, gv_1, gv_2, gv_3, pv_0, pv_1, va_rf_s, Nat.reduceDiv, Nat.reduceMod, Nat.reduceAdd, Nat.reduceMul, Int.reduceToNat, true_and, and_true, and_self, cP_eq, cP_ne, cP_lt, cP_ge, cP_gt, cP_le, eL_i, eL_l, eL_r, eL_n, Option.toList_none, Option.toList_some, List.nil_append, List.cons_append, kkI, llI, nnI, rrI, jjI, kkJ, llJ, nnJ, rrJ, iiJ, zIIs, zJJs, nEF, nET, and_false, false_and, jmin, jmax, catS_n, catS_i, catS_r, catS_l, Nat.reduceLeDiff, j1eq1, n21, jt0, jt1, Bool.false_eq_true, Classical.not_not, true_or, or_true, false_or, or_false, true_imp_iff, false_imp_iff, not_true_eq_false, not_false_eq_true, jif0, jif1, jifb, ltT, ltF, leT, leF, eqT, eqF, jlt, jle, jeq, jlt0, jle0, jeq0, jge0, jgt0, jinB, jnat, clt, cle, ceq, cgt, cge, lI_add, lI_sub, lI_mul, jadd, jsub, jmul, jneg, jtol, b010, b011, pv_2t, Int.toNat_natCast, Option.some.injEq, exists_eq_left', if_true, if_false, M, t2]
    have ht0 := ht.fi z.1 (z.2.1 2 (by omega)) (by omega)
    have hm0 := hm.fi z.1
    generalize zsI h m 0 (iI 0) = g0 at *
    have M0 := hm0.k
    refine vs_ok 2 ?_
    rw [show ((gRes 182).drop 11).take 2 = [.aload 0, .iload 1] from rfl]
    simp (disch := omega) only [vs_aload0, vs_iload1, vs_nil, gv_0, gv_1, gv_2, gv_3, pv_0, pv_1, va_rf_s, Nat.reduceDiv, Nat.reduceMod, Nat.reduceAdd, Nat.reduceMul, Int.reduceToNat, true_and, and_true, and_self, cP_eq, cP_ne, cP_lt, cP_ge, cP_gt, cP_le, eL_i, eL_l, eL_r, eL_n, Option.toList_none, Option.toList_some, List.nil_append, List.cons_append, kkI, llI, nnI, rrI, jjI, kkJ, llJ, nnJ, rrJ, iiJ, zIIs, zJJs, nEF, nET, and_false, false_and, jmin, jmax, catS_n, catS_i, catS_r, catS_l, Nat.reduceLeDiff, j1eq1, n21, jt0, jt1, Bool.false_eq_true, Classical.not_not, true_or, or_true, false_or, or_false, true_imp_iff, false_imp_iff, not_true_eq_false, not_false_eq_true, jif0, jif1, jifb, ltT, ltF, leT, leF, eqT, eqF, jlt, jle, jeq, jlt0, jle0, jeq0, jge0, jgt0, jinB, jnat, clt, cle, ceq, cgt, cge, lI_add, lI_sub, lI_mul, jadd, jsub, jmul, jneg, jtol, b010, b011, pv_2t, Int.toNat_natCast, Option.some.injEq, exists_eq_left', if_true, if_false]
    refine PW.iv rfl rfl rfl M0.1 M0.2 (le_b rfl) (le_b rfl) ?_
    refine t_M_four hm0 ht0 ha (by omega) fun g1 f1 t1 e1 => ⟨rfl, ⟨f1.1.2.2.1, rfl⟩, ?_⟩
    have m1 := hm0.fi f1
    refine vs_ok 2 ?_
    rw [show ((gRes 182).drop 14).take 2 = [.aload 0, .iload 2] from rfl]
    simp (disch := omega) only [vs_aload0, vs_iload2, vs_nil, gv_0, gv_1, gv_2, gv_3, pv_0, pv_1, va_rf_s, Nat.reduceDiv, Nat.reduceMod, Nat.reduceAdd, Nat.reduceMul, Int.reduceToNat, true_and, and_true, and_self, cP_eq, cP_ne, cP_lt, cP_ge, cP_gt, cP_le, eL_i, eL_l, eL_r, eL_n, Option.toList_none, Option.toList_some, List.nil_append, List.cons_append, kkI, llI, nnI, rrI, jjI, kkJ, llJ, nnJ, rrJ, iiJ, zIIs, zJJs, nEF, nET, and_false, false_and, jmin, jmax, catS_n, catS_i, catS_r, catS_l, Nat.reduceLeDiff, j1eq1, n21, jt0, jt1, Bool.false_eq_true, Classical.not_not, true_or, or_true, false_or, or_false, true_imp_iff, false_imp_iff, not_true_eq_false, not_false_eq_true, jif0, jif1, jifb, ltT, ltF, leT, leF, eqT, eqF, jlt, jle, jeq, jlt0, jle0, jeq0, jge0, jgt0, jinB, jnat, clt, cle, ceq, cgt, cge, lI_add, lI_sub, lI_mul, jadd, jsub, jmul, jneg, jtol, b010, b011, pv_2t, Int.toNat_natCast, Option.some.injEq, exists_eq_left', if_true, if_false]
    refine PW.iv rfl rfl rfl m1.k.1 m1.k.2 (le_b rfl) (le_b rfl) ?_
    refine t_M_four m1 t1 hb (by omega) fun g2 f2 t2 e2 => ⟨rfl, ⟨f2.1.2.2.1, rfl⟩, ?_⟩
    have m2 := m1.fi f2
    refine vs_ok 2 ?_
    rw [show ((gRes 182).drop 17).take 2 = [.aload 0, .iload 3] from rfl]
    simp (disch := omega) only [vs_aload0, vs_iload3, vs_nil, gv_0, gv_1, gv_2, gv_3, pv_0, pv_1, va_rf_s, Nat.reduceDiv, Nat.reduceMod, Nat.reduceAdd, Nat.reduceMul, Int.reduceToNat, true_and, and_true, and_self, cP_eq, cP_ne, cP_lt, cP_ge, cP_gt, cP_le, eL_i, eL_l, eL_r, eL_n, Option.toList_none, Option.toList_some, List.nil_append, List.cons_append, kkI, llI, nnI, rrI, jjI, kkJ, llJ, nnJ, rrJ, iiJ, zIIs, zJJs, nEF, nET, and_false, false_and, jmin, jmax, catS_n, catS_i, catS_r, catS_l, Nat.reduceLeDiff, j1eq1, n21, jt0, jt1, Bool.false_eq_true, Classical.not_not, true_or, or_true, false_or, or_false, true_imp_iff, false_imp_iff, not_true_eq_false, not_false_eq_true, jif0, jif1, jifb, ltT, ltF, leT, leF, eqT, eqF, jlt, jle, jeq, jlt0, jle0, jeq0, jge0, jgt0, jinB, jnat, clt, cle, ceq, cgt, cge, lI_add, lI_sub, lI_mul, jadd, jsub, jmul, jneg, jtol, b010, b011, pv_2t, Int.toNat_natCast, Option.some.injEq, exists_eq_left', if_true, if_false]
    refine PW.iv rfl rfl rfl m2.k.1 m2.k.2 (le_b rfl) (le_b rfl) ?_
    refine t_M_four m2 t2 hc (by omega) fun g3 f3 t3 e3 => ⟨rfl, ⟨f3.1.2.2.1, rfl⟩, ?_⟩
    have m3 := m2.fi f3
    refine vs_ok 2 ?_
    rw [show ((gRes 182).drop 20).take 2 = [.aload 0, .iload 4] from rfl]
    simp (disch := omega) only [vs_aload0, vs_iload4, vs_nil, gv_0, gv_1, gv_2, gv_3, pv_0, pv_1, va_rf_s, Nat.reduceDiv, Nat.reduceMod, Nat.reduceAdd, Nat.reduceMul, Int.reduceToNat, true_and, and_true, and_self, cP_eq, cP_ne, cP_lt, cP_ge, cP_gt, cP_le, eL_i, eL_l, eL_r, eL_n, Option.toList_none, Option.toList_some, List.nil_append, List.cons_append, kkI, llI, nnI, rrI, jjI, kkJ, llJ, nnJ, rrJ, iiJ, zIIs, zJJs, nEF, nET, and_false, false_and, jmin, jmax, catS_n, catS_i, catS_r, catS_l, Nat.reduceLeDiff, j1eq1, n21, jt0, jt1, Bool.false_eq_true, Classical.not_not, true_or, or_true, false_or, or_false, true_imp_iff, false_imp_iff, not_true_eq_false, not_false_eq_true, jif0, jif1, jifb, ltT, ltF, leT, leF, eqT, eqF, jlt, jle, jeq, jlt0, jle0, jeq0, jge0, jgt0, jinB, jnat, clt, cle, ceq, cgt, cge, lI_add, lI_sub, lI_mul, jadd, jsub, jmul, jneg, jtol, b010, b011, pv_2t, Int.toNat_natCast, Option.some.injEq, exists_eq_left', if_true, if_false]
    refine PW.iv rfl rfl rfl m3.k.1 m3.k.2 (le_b rfl) (le_b rfl) ?_
    refine t_M_four m3 t3 he (by omega) fun g4 f4 t4 e4 => ⟨rfl, ⟨f4.1.2.2.1, rfl⟩, ?_⟩
    have m4 := m3.fi f4
    refine vs_ok 2 ?_
    rw [show ((gRes 182).drop 23).take 2 = [.aload 0, .iload 5] from rfl]
    simp (disch := omega) only [vs_aload0, vs_iload5, vs_nil, gv_0, gv_1, gv_2, gv_3, pv_0, pv_1, va_rf_s, Nat.reduceDiv, Nat.reduceMod, Nat.reduceAdd, Nat.reduceMul, Int.reduceToNat, true_and, and_true, and_self, cP_eq, cP_ne, cP_lt, cP_ge, cP_gt, cP_le, eL_i, eL_l, eL_r, eL_n, Option.toList_none, Option.toList_some, List.nil_append, List.cons_append, kkI, llI, nnI, rrI, jjI, kkJ, llJ, nnJ, rrJ, iiJ, zIIs, zJJs, nEF, nET, and_false, false_and, jmin, jmax, catS_n, catS_i, catS_r, catS_l, Nat.reduceLeDiff, j1eq1, n21, jt0, jt1, Bool.false_eq_true, Classical.not_not, true_or, or_true, false_or, or_false, true_imp_iff, false_imp_iff, not_true_eq_false, not_false_eq_true, jif0, jif1, jifb, ltT, ltF, leT, leF, eqT, eqF, jlt, jle, jeq, jlt0, jle0, jeq0, jge0, jgt0, jinB, jnat, clt, cle, ceq, cgt, cge, lI_add, lI_sub, lI_mul, jadd, jsub, jmul, jneg, jtol, b010, b011, pv_2t, Int.toNat_natCast, Option.some.injEq, exists_eq_left', if_true, if_false]
    refine PW.iv rfl rfl rfl m4.k.1 m4.k.2 (le_b rfl) (le_b rfl) ?_
    refine t_M_four m4 t4 hf (by omega) fun g5 f5 t5 e5 => ⟨rfl, ⟨f5.1.2.2.1, rfl⟩, ?_⟩
    have M5 := (m4.fi f5).k
    have n5 := t5.1
    refine vs_ok 3 ?_
    rw [show ((gRes 182).drop 26).take 3 = [.aload 0, .getfield 12020, .ireturn] from rfl]
    simp (disch := omega) only [vs_getfield, vs_ireturn, vs_aload0, vs_nil, gv_0, gv_1, gv_2, gv_3, pv_0, pv_1, va_rf_s, Nat.reduceDiv, Nat.reduceMod, Nat.reduceAdd, Nat.reduceMul, Int.reduceToNat, true_and, and_true, and_self, cP_eq, cP_ne, cP_lt, cP_ge, cP_gt, cP_le, eL_i, eL_l, eL_r, eL_n, Option.toList_none, Option.toList_some, List.nil_append, List.cons_append, kkI, llI, nnI, rrI, jjI, kkJ, llJ, nnJ, rrJ, iiJ, zIIs, zJJs, nEF, nET, and_false, false_and, jmin, jmax, catS_n, catS_i, catS_r, catS_l, Nat.reduceLeDiff, j1eq1, n21, jt0, jt1, Bool.false_eq_true, Classical.not_not, true_or, or_true, false_or, or_false, true_imp_iff, false_imp_iff, not_true_eq_false, not_false_eq_true, jif0, jif1, jifb, ltT, ltF, leT, leF, eqT, eqF, jlt, jle, jeq, jlt0, jle0, jeq0, jge0, jgt0, jinB, jnat, clt, cle, ceq, cgt, cge, lI_add, lI_sub, lI_mul, jadd, jsub, jmul, jneg, jtol, b010, b011, pv_2t, Int.toNat_natCast, Option.some.injEq, exists_eq_left', if_true, if_false, M5, n5, show gRc 182 = 1 from rfl]
    exact h1 c1 g5 ((z.1.wk fun q y => Or.inl y).tr ((((f1.tr f2).tr f3).tr f4).tr f5)) t5 (by rw [e5 0 (by omega), e4 0 (by omega), e3 0 (by omega), e2 0 (by omega), e1 0 (by omega), z.2.2]) fun i h0 h2 => by rw [e5 i h2, e4 i h2, e3 i h2, e2 i h2, e1 i h2, z.2.1 i h0]
  · refine vs_ok 11 ?_
    rw [show ((gRes 182).drop 0).take 11 = [.aload 0, .iconst 0, .putfield 12000, .aload 0, .getfield 12020, .iconst 20, .iadd, .iconst 540, .if_icmp .le 11, .iconst (-1), .ireturn] from rfl]
    simp (disch := omega) only [vs_iadd, vs_iconst, vs_if_icmp, vs_getfield, vs_putfield, vs_ireturn, vs_aload0, vs_nil, gv_0, gv_1, gv_2, gv_3, pv_0, pv_1, va_rf_s, Nat.reduceDiv, Nat.reduceMod, Nat.reduceAdd, Nat.reduceMul, Int.reduceToNat, true_and, and_true, and_self, cP_eq, cP_ne, cP_lt, cP_ge, cP_gt, cP_le, eL_i, eL_l, eL_r, eL_n, Option.toList_none, Option.toList_some, List.nil_append, List.cons_append, kkI, llI, nnI, rrI, jjI, kkJ, llJ, nnJ, rrJ, iiJ, zIIs, zJJs, nEF, nET, and_false, false_and, jmin, jmax, catS_n, catS_i, catS_r, catS_l, Nat.reduceLeDiff, j1eq1, n21, jt0, jt1, Bool.false_eq_true, Classical.not_not, true_or, or_true, false_or, or_false, true_imp_iff, false_imp_iff, not_true_eq_false, not_false_eq_true, jif0, jif1, jifb, ltT, ltF, leT, leF, eqT, eqF, jlt, jle, jeq, jlt0, jle0, jeq0, jge0, jgt0, jinB, jnat, clt, cle, ceq, cgt, cge, lI_add, lI_sub, lI_mul, jadd, jsub, jmul, jneg, jtol, b010, b011, pv_2t, Int.toNat_natCast, Option.some.injEq, exists_eq_left', if_true, if_false, M, t2, show gRc 182 = 1 from rfl]
    exact h0 (by omega) _ z
