/-! the law's helpers: they catch -/
theorem PW.ivx {d k i y b j xx : Nat} {ls : List (Option Value)} {st a r : List Value} {h : Hp} {Q : Nat → Option Value → Hp → Prop} (hf : (gRes k)[i]? = some (.invokevirtual y)) (hs : st.drop (gNP y) = .ref b :: r) (ha : (st.take (gNP y)).reverse = a) (hk : zK h b = gOwn y) (hb : b < zN h) (hcat : catS r ≤ 8) (hle : (eL (.ref b :: a)).length ≤ gML y) (hg : gHd k i = some j) (hj : (gRes k)[j]? = some (.astore xx))
    (hp : PR d y (.ref b :: a) h (fun t v h' => (t = 0 ∧ (zN h' = zN h ∧ oOK (zN h') v = true) ∧ PW (d + 1) k (i + 1) ls (v.toList ++ r) h' Q) ∨ (t = 1 ∧ zN h' = zN h ∧ PW (d + 1) k (j + 1) ((ps0 ls xx).set xx none) [] h' Q))) : PW (d + 1) k i ls st h Q := by
  obtain ⟨n, t, v, h', h1, h2⟩ := hp
  rcases h2 with ⟨rfl, z1, z2⟩ | ⟨rfl, z1, z2⟩
  · exact PW.iv hf hs ha hk hb hcat hle ⟨n, 0, v, h', h1, rfl, z1, z2⟩
  · obtain ⟨n2, t2, v2, h3, h4, h5⟩ := z2
    have hc : cl (.invokevirtual y) st h = some (y, .ref b :: a, r) := by
      dsimp only [cl]
      rw [hs]
      dsimp only
      rw [if_pos ⟨hk, hb⟩, ha]
    refine ⟨max n n2 + 1, t2, v2, h3, ?_, h5⟩
    rw [ev_s, hf]
    dsimp only
    rw [hc]
    dsimp only
    rw [if_pos ⟨hcat, hle⟩, ev_mono n (max n n2) d d y 0 _ _ _ _ (Nat.le_max_left _ _) (Nat.le_refl _) h1]
    show (match gHd k i with
      | some j => match (gRes k)[j]? with
        | some (.astore x) => if zN h' = zN h then ev (max n n2) (d + 1) k (j + 1) ((ps0 ls x).set x none) [] h' else none
        | _ => none
      | none => none) = _
    rw [hg]
    dsimp only
    rw [hj]
    dsimp only
    rw [if_pos z1]
    exact ev_mono n2 (max n n2) (d + 1) (d + 1) k (j + 1) _ _ _ _ (Nat.le_max_right _ _) (Nat.le_refl _) h4
/-- what a helper is given, and what it leaves -/
abbrev outK (h : Hp) (x o : Nat) : Prop := (zK h x = 11 ∧ x < zN h) ∧ zK h o = 15 ∧ o < zN h ∧ zL h o = 1
section HLP
variable {h : Hp} {x o : Nat} {r : Option Value} {a b c : Int32} {Q : Nat → Option Value → Hp → Prop}
theorem t_L_about (E : outK h x o) (hD : ∀ Q1 : Nat → Option Value → Hp → Prop, (r = none → Q1 1 none (zThr h)) → (∀ v, r = some v → iV v → Q1 0 (some v) h) → PR 138 m_D_about [.ref x, .int a, .int b] h Q1)
    (q1 : r = none → Q 0 (some (.int (iI 1))) (zThr h)) (q0 : ∀ v : Int32, r = some (.int v) → Q 0 (some (.int (iI 0))) (zsJ h o 0 v.toInt64)) : PR 139 m_L_about [.ref x, .int a, .int b, .ref o] h Q := by
  obtain ⟨N, E2⟩ := E
  show PW 139 271 0 [some (.ref x), some (.int a), some (.int b), some (.ref o), none] [] h Q
  refine vs_ok 5 ?_
  rw [show ((gRes 271).drop 0).take 5 = [.aload 3, .iconst 0, .aload 0, .iload 1, .iload 2] from rfl]
  simp (disch := omega) only [vs_iconst, vs_aload0, vs_iload1, vs_iload2, vs_aload3, vs_nil, gv_0, gv_1, gv_2, gv_3, pv_0, pv_1, va_rf_s, Nat.reduceDiv, Nat.reduceMod, Nat.reduceAdd, Nat.reduceMul, Int.reduceToNat, true_and, and_true, and_self, cP_eq, cP_ne, cP_lt, cP_ge, cP_gt, cP_le, eL_i, eL_l, eL_r, eL_n, Option.toList_none, Option.toList_some, List.nil_append, List.cons_append, kkI, llI, nnI, rrI, jjI, kkJ, llJ, nnJ, rrJ, iiJ, zIIs, zJJs, nEF, nET, and_false, false_and, jmin, jmax, catS_n, catS_i, catS_r, catS_l, Nat.reduceLeDiff, j1eq1, n21, jt0, jt1, Bool.false_eq_true, Classical.not_not, true_or, or_true, false_or, or_false, true_imp_iff, false_imp_iff, not_true_eq_false, not_false_eq_true, jif0, jif1, jifb, ltT, ltF, leT, leF, eqT, eqF, jlt, jle, jeq, jlt0, jle0, jeq0, jge0, jgt0, jinB, jnat, clt, cle, ceq, cgt, cge, lI_add, lI_sub, lI_mul, jadd, jsub, jmul, jneg, jtol, b010, b011, pv_2t, Int.toNat_natCast, Option.some.injEq, exists_eq_left', if_true, if_false]
  refine PW.ivx rfl rfl rfl N.1 N.2 (le_b rfl) (le_b rfl) rfl rfl ?_
  refine hD _ (fun e => Or.inr ⟨rfl, rfl, ?_⟩) fun v e pv => Or.inl ⟨rfl, ⟨rfl, ?_⟩, ?_⟩
  · show PW 139 271 10 [some (.ref x), some (.int a), some (.int b), some (.ref o), none] [] (zThr h) Q
    refine vs_ok 2 ?_
    rw [show ((gRes 271).drop 10).take 2 = [.iconst 1, .ireturn] from rfl]
    simp (disch := omega) only [vs_iconst, vs_ireturn, vs_nil, gv_0, gv_1, gv_2, gv_3, pv_0, pv_1, va_rf_s, Nat.reduceDiv, Nat.reduceMod, Nat.reduceAdd, Nat.reduceMul, Int.reduceToNat, true_and, and_true, and_self, cP_eq, cP_ne, cP_lt, cP_ge, cP_gt, cP_le, eL_i, eL_l, eL_r, eL_n, Option.toList_none, Option.toList_some, List.nil_append, List.cons_append, kkI, llI, nnI, rrI, jjI, kkJ, llJ, nnJ, rrJ, iiJ, zIIs, zJJs, nEF, nET, and_false, false_and, jmin, jmax, catS_n, catS_i, catS_r, catS_l, Nat.reduceLeDiff, j1eq1, n21, jt0, jt1, Bool.false_eq_true, Classical.not_not, true_or, or_true, false_or, or_false, true_imp_iff, false_imp_iff, not_true_eq_false, not_false_eq_true, jif0, jif1, jifb, ltT, ltF, leT, leF, eqT, eqF, jlt, jle, jeq, jlt0, jle0, jeq0, jge0, jgt0, jinB, jnat, clt, cle, ceq, cgt, cge, lI_add, lI_sub, lI_mul, jadd, jsub, jmul, jneg, jtol, b010, b011, pv_2t, Int.toNat_natCast, Option.some.injEq, exists_eq_left', if_true, if_false, show gRc 271 = 1 from rfl]
    exact q1 e
  · obtain ⟨v0, rfl⟩ := pv
    rfl
  · obtain ⟨v0, rfl⟩ := pv
    show PW 139 271 6 [some (.ref x), some (.int a), some (.int b), some (.ref o), none] [.int v0, .int (iI 0), .ref o] h Q
    refine vs_ok 3 ?_
    rw [show ((gRes 271).drop 6).take 3 = [.i2l, .lastore, .goto 12] from rfl]
    simp (disch := omega) only [vs_i2l, vs_goto, vs_lastore, vs_nil, gv_0, gv_1, gv_2, gv_3, pv_0, pv_1, va_rf_s, Nat.reduceDiv, Nat.reduceMod, Nat.reduceAdd, Nat.reduceMul, Int.reduceToNat, true_and, and_true, and_self, cP_eq, cP_ne, cP_lt, cP_ge, cP_gt, cP_le, eL_i, eL_l, eL_r, eL_n, Option.toList_none, Option.toList_some, List.nil_append, List.cons_append, kkI, llI, nnI, rrI, jjI, kkJ, llJ, nnJ, rrJ, iiJ, zIIs, zJJs, nEF, nET, and_false, false_and, jmin, jmax, catS_n, catS_i, catS_r, catS_l, Nat.reduceLeDiff, j1eq1, n21, jt0, jt1, Bool.false_eq_true, Classical.not_not, true_or, or_true, false_or, or_false, true_imp_iff, false_imp_iff, not_true_eq_false, not_false_eq_true, jif0, jif1, jifb, ltT, ltF, leT, leF, eqT, eqF, jlt, jle, jeq, jlt0, jle0, jeq0, jge0, jgt0, jinB, jnat, clt, cle, ceq, cgt, cge, lI_add, lI_sub, lI_mul, jadd, jsub, jmul, jneg, jtol, b010, b011, pv_2t, Int.toNat_natCast, Option.some.injEq, exists_eq_left', if_true, if_false, E2]
    refine vs_ok 2 ?_
    rw [show ((gRes 271).drop 12).take 2 = [.iconst 0, .ireturn] from rfl]
    simp (disch := omega) only [vs_iconst, vs_ireturn, vs_nil, gv_0, gv_1, gv_2, gv_3, pv_0, pv_1, va_rf_s, Nat.reduceDiv, Nat.reduceMod, Nat.reduceAdd, Nat.reduceMul, Int.reduceToNat, true_and, and_true, and_self, cP_eq, cP_ne, cP_lt, cP_ge, cP_gt, cP_le, eL_i, eL_l, eL_r, eL_n, Option.toList_none, Option.toList_some, List.nil_append, List.cons_append, kkI, llI, nnI, rrI, jjI, kkJ, llJ, nnJ, rrJ, iiJ, zIIs, zJJs, nEF, nET, and_false, false_and, jmin, jmax, catS_n, catS_i, catS_r, catS_l, Nat.reduceLeDiff, j1eq1, n21, jt0, jt1, Bool.false_eq_true, Classical.not_not, true_or, or_true, false_or, or_false, true_imp_iff, false_imp_iff, not_true_eq_false, not_false_eq_true, jif0, jif1, jifb, ltT, ltF, leT, leF, eqT, eqF, jlt, jle, jeq, jlt0, jle0, jeq0, jge0, jgt0, jinB, jnat, clt, cle, ceq, cgt, cge, lI_add, lI_sub, lI_mul, jadd, jsub, jmul, jneg, jtol, b010, b011, pv_2t, Int.toNat_natCast, Option.some.injEq, exists_eq_left', if_true, if_false, E2, show gRc 271 = 1 from rfl]
    exact q0 v0 e
theorem t_L_shift (E : outK h x o) (hD : ∀ Q1 : Nat → Option Value → Hp → Prop, (r = none → Q1 1 none (zThr h)) → (∀ v, r = some v → iV v → Q1 0 (some v) h) → PR 138 m_D_shift [.ref x, .int a, .int b] h Q1)
    (q1 : r = none → Q 0 (some (.int (iI 1))) (zThr h)) (q0 : ∀ v : Int32, r = some (.int v) → Q 0 (some (.int (iI 0))) (zsJ h o 0 v.toInt64)) : PR 139 m_L_shift [.ref x, .int a, .int b, .ref o] h Q := by
  obtain ⟨N, E2⟩ := E
  show PW 139 274 0 [some (.ref x), some (.int a), some (.int b), some (.ref o), none] [] h Q
  refine vs_ok 5 ?_
  rw [show ((gRes 274).drop 0).take 5 = [.aload 3, .iconst 0, .aload 0, .iload 1, .iload 2] from rfl]
  simp (disch := omega) only [vs_iconst, vs_aload0, vs_iload1, vs_iload2, vs_aload3, vs_nil, gv_0, gv_1, gv_2, gv_3, pv_0, pv_1, va_rf_s, Nat.reduceDiv, Nat.reduceMod, Nat.reduceAdd, Nat.reduceMul, Int.reduceToNat, true_and, and_true, and_self, cP_eq, cP_ne, cP_lt, cP_ge, cP_gt, cP_le, eL_i, eL_l, eL_r, eL_n, Option.toList_none, Option.toList_some, List.nil_append, List.cons_append, kkI, llI, nnI, rrI, jjI, kkJ, llJ, nnJ, rrJ, iiJ, zIIs, zJJs, nEF, nET, and_false, false_and, jmin, jmax, catS_n, catS_i, catS_r, catS_l, Nat.reduceLeDiff, j1eq1, n21, jt0, jt1, Bool.false_eq_true, Classical.not_not, true_or, or_true, false_or, or_false, true_imp_iff, false_imp_iff, not_true_eq_false, not_false_eq_true, jif0, jif1, jifb, ltT, ltF, leT, leF, eqT, eqF, jlt, jle, jeq, jlt0, jle0, jeq0, jge0, jgt0, jinB, jnat, clt, cle, ceq, cgt, cge, lI_add, lI_sub, lI_mul, jadd, jsub, jmul, jneg, jtol, b010, b011, pv_2t, Int.toNat_natCast, Option.some.injEq, exists_eq_left', if_true, if_false]
  refine PW.ivx rfl rfl rfl N.1 N.2 (le_b rfl) (le_b rfl) rfl rfl ?_
  refine hD _ (fun e => Or.inr ⟨rfl, rfl, ?_⟩) fun v e pv => Or.inl ⟨rfl, ⟨rfl, ?_⟩, ?_⟩
  · show PW 139 274 10 [some (.ref x), some (.int a), some (.int b), some (.ref o), none] [] (zThr h) Q
    refine vs_ok 2 ?_
    rw [show ((gRes 274).drop 10).take 2 = [.iconst 1, .ireturn] from rfl]
    simp (disch := omega) only [vs_iconst, vs_ireturn, vs_nil, gv_0, gv_1, gv_2, gv_3, pv_0, pv_1, va_rf_s, Nat.reduceDiv, Nat.reduceMod, Nat.reduceAdd, Nat.reduceMul, Int.reduceToNat, true_and, and_true, and_self, cP_eq, cP_ne, cP_lt, cP_ge, cP_gt, cP_le, eL_i, eL_l, eL_r, eL_n, Option.toList_none, Option.toList_some, List.nil_append, List.cons_append, kkI, llI, nnI, rrI, jjI, kkJ, llJ, nnJ, rrJ, iiJ, zIIs, zJJs, nEF, nET, and_false, false_and, jmin, jmax, catS_n, catS_i, catS_r, catS_l, Nat.reduceLeDiff, j1eq1, n21, jt0, jt1, Bool.false_eq_true, Classical.not_not, true_or, or_true, false_or, or_false, true_imp_iff, false_imp_iff, not_true_eq_false, not_false_eq_true, jif0, jif1, jifb, ltT, ltF, leT, leF, eqT, eqF, jlt, jle, jeq, jlt0, jle0, jeq0, jge0, jgt0, jinB, jnat, clt, cle, ceq, cgt, cge, lI_add, lI_sub, lI_mul, jadd, jsub, jmul, jneg, jtol, b010, b011, pv_2t, Int.toNat_natCast, Option.some.injEq, exists_eq_left', if_true, if_false, show gRc 274 = 1 from rfl]
    exact q1 e
  · obtain ⟨v0, rfl⟩ := pv
    rfl
  · obtain ⟨v0, rfl⟩ := pv
    show PW 139 274 6 [some (.ref x), some (.int a), some (.int b), some (.ref o), none] [.int v0, .int (iI 0), .ref o] h Q
    refine vs_ok 3 ?_
    rw [show ((gRes 274).drop 6).take 3 = [.i2l, .lastore, .goto 12] from rfl]
    simp (disch := omega) only [vs_i2l, vs_goto, vs_lastore, vs_nil, gv_0, gv_1, gv_2, gv_3, pv_0, pv_1, va_rf_s, Nat.reduceDiv, Nat.reduceMod, Nat.reduceAdd, Nat.reduceMul, Int.reduceToNat, true_and, and_true, and_self, cP_eq, cP_ne, cP_lt, cP_ge, cP_gt, cP_le, eL_i, eL_l, eL_r, eL_n, Option.toList_none, Option.toList_some, List.nil_append, List.cons_append, kkI, llI, nnI, rrI, jjI, kkJ, llJ, nnJ, rrJ, iiJ, zIIs, zJJs, nEF, nET, and_false, false_and, jmin, jmax, catS_n, catS_i, catS_r, catS_l, Nat.reduceLeDiff, j1eq1, n21, jt0, jt1, Bool.false_eq_true, Classical.not_not, true_or, or_true, false_or, or_false, true_imp_iff, false_imp_iff, not_true_eq_false, not_false_eq_true, jif0, jif1, jifb, ltT, ltF, leT, leF, eqT, eqF, jlt, jle, jeq, jlt0, jle0, jeq0, jge0, jgt0, jinB, jnat, clt, cle, ceq, cgt, cge, lI_add, lI_sub, lI_mul, jadd, jsub, jmul, jneg, jtol, b010, b011, pv_2t, Int.toNat_natCast, Option.some.injEq, exists_eq_left', if_true, if_false, E2]
    refine vs_ok 2 ?_
    rw [show ((gRes 274).drop 12).take 2 = [.iconst 0, .ireturn] from rfl]
    simp (disch := omega) only [vs_iconst, vs_ireturn, vs_nil, gv_0, gv_1, gv_2, gv_3, pv_0, pv_1, va_rf_s, Nat.reduceDiv, Nat.reduceMod, Nat.reduceAdd, Nat.reduceMul, Int.reduceToNat, true_and, and_true, and_self, cP_eq, cP_ne, cP_lt, cP_ge, cP_gt, cP_le, eL_i, eL_l, eL_r, eL_n, Option.toList_none, Option.toList_some, List.nil_append, List.cons_append, kkI, llI, nnI, rrI, jjI, kkJ, llJ, nnJ, rrJ, iiJ, zIIs, zJJs, nEF, nET, and_false, false_and, jmin, jmax, catS_n, catS_i, catS_r, catS_l, Nat.reduceLeDiff, j1eq1, n21, jt0, jt1, Bool.false_eq_true, Classical.not_not, true_or, or_true, false_or, or_false, true_imp_iff, false_imp_iff, not_true_eq_false, not_false_eq_true, jif0, jif1, jifb, ltT, ltF, leT, leF, eqT, eqF, jlt, jle, jeq, jlt0, jle0, jeq0, jge0, jgt0, jinB, jnat, clt, cle, ceq, cgt, cge, lI_add, lI_sub, lI_mul, jadd, jsub, jmul, jneg, jtol, b010, b011, pv_2t, Int.toNat_natCast, Option.some.injEq, exists_eq_left', if_true, if_false, E2, show gRc 274 = 1 from rfl]
    exact q0 v0 e
theorem t_L_mean (E : outK h x o) (hD : ∀ Q1 : Nat → Option Value → Hp → Prop, (r = none → Q1 1 none (zThr h)) → (∀ v, r = some v → lV v → Q1 0 (some v) h) → PR 138 m_D_mean [.ref x, .int a, .int b] h Q1)
    (q1 : r = none → Q 0 (some (.int (iI 1))) (zThr h)) (q0 : ∀ v : Int64, r = some (.long v) → Q 0 (some (.int (iI 0))) (zsJ h o 0 v)) : PR 139 m_L_mean [.ref x, .int a, .int b, .ref o] h Q := by
  obtain ⟨N, E2⟩ := E
  show PW 139 272 0 [some (.ref x), some (.int a), some (.int b), some (.ref o), none] [] h Q
  refine vs_ok 5 ?_
  rw [show ((gRes 272).drop 0).take 5 = [.aload 3, .iconst 0, .aload 0, .iload 1, .iload 2] from rfl]
  simp (disch := omega) only [vs_iconst, vs_aload0, vs_iload1, vs_iload2, vs_aload3, vs_nil, gv_0, gv_1, gv_2, gv_3, pv_0, pv_1, va_rf_s, Nat.reduceDiv, Nat.reduceMod, Nat.reduceAdd, Nat.reduceMul, Int.reduceToNat, true_and, and_true, and_self, cP_eq, cP_ne, cP_lt, cP_ge, cP_gt, cP_le, eL_i, eL_l, eL_r, eL_n, Option.toList_none, Option.toList_some, List.nil_append, List.cons_append, kkI, llI, nnI, rrI, jjI, kkJ, llJ, nnJ, rrJ, iiJ, zIIs, zJJs, nEF, nET, and_false, false_and, jmin, jmax, catS_n, catS_i, catS_r, catS_l, Nat.reduceLeDiff, j1eq1, n21, jt0, jt1, Bool.false_eq_true, Classical.not_not, true_or, or_true, false_or, or_false, true_imp_iff, false_imp_iff, not_true_eq_false, not_false_eq_true, jif0, jif1, jifb, ltT, ltF, leT, leF, eqT, eqF, jlt, jle, jeq, jlt0, jle0, jeq0, jge0, jgt0, jinB, jnat, clt, cle, ceq, cgt, cge, lI_add, lI_sub, lI_mul, jadd, jsub, jmul, jneg, jtol, b010, b011, pv_2t, Int.toNat_natCast, Option.some.injEq, exists_eq_left', if_true, if_false]
  refine PW.ivx rfl rfl rfl N.1 N.2 (le_b rfl) (le_b rfl) rfl rfl ?_
  refine hD _ (fun e => Or.inr ⟨rfl, rfl, ?_⟩) fun v e pv => Or.inl ⟨rfl, ⟨rfl, ?_⟩, ?_⟩
  · show PW 139 272 9 [some (.ref x), some (.int a), some (.int b), some (.ref o), none] [] (zThr h) Q
    refine vs_ok 2 ?_
    rw [show ((gRes 272).drop 9).take 2 = [.iconst 1, .ireturn] from rfl]
    simp (disch := omega) only [vs_iconst, vs_ireturn, vs_nil, gv_0, gv_1, gv_2, gv_3, pv_0, pv_1, va_rf_s, Nat.reduceDiv, Nat.reduceMod, Nat.reduceAdd, Nat.reduceMul, Int.reduceToNat, true_and, and_true, and_self, cP_eq, cP_ne, cP_lt, cP_ge, cP_gt, cP_le, eL_i, eL_l, eL_r, eL_n, Option.toList_none, Option.toList_some, List.nil_append, List.cons_append, kkI, llI, nnI, rrI, jjI, kkJ, llJ, nnJ, rrJ, iiJ, zIIs, zJJs, nEF, nET, and_false, false_and, jmin, jmax, catS_n, catS_i, catS_r, catS_l, Nat.reduceLeDiff, j1eq1, n21, jt0, jt1, Bool.false_eq_true, Classical.not_not, true_or, or_true, false_or, or_false, true_imp_iff, false_imp_iff, not_true_eq_false, not_false_eq_true, jif0, jif1, jifb, ltT, ltF, leT, leF, eqT, eqF, jlt, jle, jeq, jlt0, jle0, jeq0, jge0, jgt0, jinB, jnat, clt, cle, ceq, cgt, cge, lI_add, lI_sub, lI_mul, jadd, jsub, jmul, jneg, jtol, b010, b011, pv_2t, Int.toNat_natCast, Option.some.injEq, exists_eq_left', if_true, if_false, show gRc 272 = 1 from rfl]
    exact q1 e
  · obtain ⟨v0, rfl⟩ := pv
    rfl
  · obtain ⟨v0, rfl⟩ := pv
    show PW 139 272 6 [some (.ref x), some (.int a), some (.int b), some (.ref o), none] [.long v0, .int (iI 0), .ref o] h Q
    refine vs_ok 2 ?_
    rw [show ((gRes 272).drop 6).take 2 = [.lastore, .goto 11] from rfl]
    simp (disch := omega) only [vs_goto, vs_lastore, vs_nil, gv_0, gv_1, gv_2, gv_3, pv_0, pv_1, va_rf_s, Nat.reduceDiv, Nat.reduceMod, Nat.reduceAdd, Nat.reduceMul, Int.reduceToNat, true_and, and_true, and_self, cP_eq, cP_ne, cP_lt, cP_ge, cP_gt, cP_le, eL_i, eL_l, eL_r, eL_n, Option.toList_none, Option.toList_some, List.nil_append, List.cons_append, kkI, llI, nnI, rrI, jjI, kkJ, llJ, nnJ, rrJ, iiJ, zIIs, zJJs, nEF, nET, and_false, false_and, jmin, jmax, catS_n, catS_i, catS_r, catS_l, Nat.reduceLeDiff, j1eq1, n21, jt0, jt1, Bool.false_eq_true, Classical.not_not, true_or, or_true, false_or, or_false, true_imp_iff, false_imp_iff, not_true_eq_false, not_false_eq_true, jif0, jif1, jifb, ltT, ltF, leT, leF, eqT, eqF, jlt, jle, jeq, jlt0, jle0, jeq0, jge0, jgt0, jinB, jnat, clt, cle, ceq, cgt, cge, lI_add, lI_sub, lI_mul, jadd, jsub, jmul, jneg, jtol, b010, b011, pv_2t, Int.toNat_natCast, Option.some.injEq, exists_eq_left', if_true, if_false, E2]
    refine vs_ok 2 ?_
    rw [show ((gRes 272).drop 11).take 2 = [.iconst 0, .ireturn] from rfl]
    simp (disch := omega) only [vs_iconst, vs_ireturn, vs_nil, gv_0, gv_1, gv_2, gv_3, pv_0, pv_1, va_rf_s, Nat.reduceDiv, Nat.reduceMod, Nat.reduceAdd, Nat.reduceMul, Int.reduceToNat, true_and, and_true, and_self, cP_eq, cP_ne, cP_lt, cP_ge, cP_gt, cP_le, eL_i, eL_l, eL_r, eL_n, Option.toList_none, Option.toList_some, List.nil_append, List.cons_append, kkI, llI, nnI, rrI, jjI, kkJ, llJ, nnJ, rrJ, iiJ, zIIs, zJJs, nEF, nET, and_false, false_and, jmin, jmax, catS_n, catS_i, catS_r, catS_l, Nat.reduceLeDiff, j1eq1, n21, jt0, jt1, Bool.false_eq_true, Classical.not_not, true_or, or_true, false_or, or_false, true_imp_iff, false_imp_iff, not_true_eq_false, not_false_eq_true, jif0, jif1, jifb, ltT, ltF, leT, leF, eqT, eqF, jlt, jle, jeq, jlt0, jle0, jeq0, jge0, jgt0, jinB, jnat, clt, cle, ceq, cgt, cge, lI_add, lI_sub, lI_mul, jadd, jsub, jmul, jneg, jtol, b010, b011, pv_2t, Int.toNat_natCast, Option.some.injEq, exists_eq_left', if_true, if_false, E2, show gRc 272 = 1 from rfl]
    exact q0 v0 e
theorem t_L_otherAt (E : outK h x o) (hD : ∀ Q1 : Nat → Option Value → Hp → Prop, (r = none → Q1 1 none (zThr h)) → (∀ v, r = some v → iV v → Q1 0 (some v) h) → PR 138 m_D_otherAt [.ref x, .int a, .int b, .int c] h Q1)
    (q1 : r = none → Q 0 (some (.int (iI 1))) (zThr h)) (q0 : ∀ v : Int32, r = some (.int v) → Q 0 (some (.int (iI 0))) (zsJ h o 0 v.toInt64)) : PR 139 m_L_otherAt [.ref x, .int a, .int b, .int c, .ref o] h Q := by
  obtain ⟨N, E2⟩ := E
  show PW 139 273 0 [some (.ref x), some (.int a), some (.int b), some (.int c), some (.ref o), none] [] h Q
  refine vs_ok 6 ?_
  rw [show ((gRes 273).drop 0).take 6 = [.aload 4, .iconst 0, .aload 0, .iload 1, .iload 2, .iload 3] from rfl]
  simp (disch := omega) only [vs_iconst, vs_aload0, vs_iload1, vs_iload2, vs_iload3, vs_aload4, vs_nil, gv_0, gv_1, gv_2, gv_3, pv_0, pv_1, va_rf_s, Nat.reduceDiv, Nat.reduceMod, Nat.reduceAdd, Nat.reduceMul, Int.reduceToNat, true_and, and_true, and_self, cP_eq, cP_ne, cP_lt, cP_ge, cP_gt, cP_le, eL_i, eL_l, eL_r, eL_n, Option.toList_none, Option.toList_some, List.nil_append, List.cons_append, kkI, llI, nnI, rrI, jjI, kkJ, llJ, nnJ, rrJ, iiJ, zIIs, zJJs, nEF, nET, and_false, false_and, jmin, jmax, catS_n, catS_i, catS_r, catS_l, Nat.reduceLeDiff, j1eq1, n21, jt0, jt1, Bool.false_eq_true, Classical.not_not, true_or, or_true, false_or, or_false, true_imp_iff, false_imp_iff, not_true_eq_false, not_false_eq_true, jif0, jif1, jifb, ltT, ltF, leT, leF, eqT, eqF, jlt, jle, jeq, jlt0, jle0, jeq0, jge0, jgt0, jinB, jnat, clt, cle, ceq, cgt, cge, lI_add, lI_sub, lI_mul, jadd, jsub, jmul, jneg, jtol, b010, b011, pv_2t, Int.toNat_natCast, Option.some.injEq, exists_eq_left', if_true, if_false]
  refine PW.ivx rfl rfl rfl N.1 N.2 (le_b rfl) (le_b rfl) rfl rfl ?_
  refine hD _ (fun e => Or.inr ⟨rfl, rfl, ?_⟩) fun v e pv => Or.inl ⟨rfl, ⟨rfl, ?_⟩, ?_⟩
  · show PW 139 273 11 [some (.ref x), some (.int a), some (.int b), some (.int c), some (.ref o), none] [] (zThr h) Q
    refine vs_ok 2 ?_
    rw [show ((gRes 273).drop 11).take 2 = [.iconst 1, .ireturn] from rfl]
    simp (disch := omega) only [vs_iconst, vs_ireturn, vs_nil, gv_0, gv_1, gv_2, gv_3, pv_0, pv_1, va_rf_s, Nat.reduceDiv, Nat.reduceMod, Nat.reduceAdd, Nat.reduceMul, Int.reduceToNat, true_and, and_true, and_self, cP_eq, cP_ne, cP_lt, cP_ge, cP_gt, cP_le, eL_i, eL_l, eL_r, eL_n, Option.toList_none, Option.toList_some, List.nil_append, List.cons_append, kkI, llI, nnI, rrI, jjI, kkJ, llJ, nnJ, rrJ, iiJ, zIIs, zJJs, nEF, nET, and_false, false_and, jmin, jmax, catS_n, catS_i, catS_r, catS_l, Nat.reduceLeDiff, j1eq1, n21, jt0, jt1, Bool.false_eq_true, Classical.not_not, true_or, or_true, false_or, or_false, true_imp_iff, false_imp_iff, not_true_eq_false, not_false_eq_true, jif0, jif1, jifb, ltT, ltF, leT, leF, eqT, eqF, jlt, jle, jeq, jlt0, jle0, jeq0, jge0, jgt0, jinB, jnat, clt, cle, ceq, cgt, cge, lI_add, lI_sub, lI_mul, jadd, jsub, jmul, jneg, jtol, b010, b011, pv_2t, Int.toNat_natCast, Option.some.injEq, exists_eq_left', if_true, if_false, show gRc 273 = 1 from rfl]
    exact q1 e
  · obtain ⟨v0, rfl⟩ := pv
    rfl
  · obtain ⟨v0, rfl⟩ := pv
    show PW 139 273 7 [some (.ref x), some (.int a), some (.int b), some (.int c), some (.ref o), none] [.int v0, .int (iI 0), .ref o] h Q
    refine vs_ok 3 ?_
    rw [show ((gRes 273).drop 7).take 3 = [.i2l, .lastore, .goto 13] from rfl]
    simp (disch := omega) only [vs_i2l, vs_goto, vs_lastore, vs_nil, gv_0, gv_1, gv_2, gv_3, pv_0, pv_1, va_rf_s, Nat.reduceDiv, Nat.reduceMod, Nat.reduceAdd, Nat.reduceMul, Int.reduceToNat, true_and, and_true, and_self, cP_eq, cP_ne, cP_lt, cP_ge, cP_gt, cP_le, eL_i, eL_l, eL_r, eL_n, Option.toList_none, Option.toList_some, List.nil_append, List.cons_append, kkI, llI, nnI, rrI, jjI, kkJ, llJ, nnJ, rrJ, iiJ, zIIs, zJJs, nEF, nET, and_false, false_and, jmin, jmax, catS_n, catS_i, catS_r, catS_l, Nat.reduceLeDiff, j1eq1, n21, jt0, jt1, Bool.false_eq_true, Classical.not_not, true_or, or_true, false_or, or_false, true_imp_iff, false_imp_iff, not_true_eq_false, not_false_eq_true, jif0, jif1, jifb, ltT, ltF, leT, leF, eqT, eqF, jlt, jle, jeq, jlt0, jle0, jeq0, jge0, jgt0, jinB, jnat, clt, cle, ceq, cgt, cge, lI_add, lI_sub, lI_mul, jadd, jsub, jmul, jneg, jtol, b010, b011, pv_2t, Int.toNat_natCast, Option.some.injEq, exists_eq_left', if_true, if_false, E2]
    refine vs_ok 2 ?_
    rw [show ((gRes 273).drop 13).take 2 = [.iconst 0, .ireturn] from rfl]
    simp (disch := omega) only [vs_iconst, vs_ireturn, vs_nil, gv_0, gv_1, gv_2, gv_3, pv_0, pv_1, va_rf_s, Nat.reduceDiv, Nat.reduceMod, Nat.reduceAdd, Nat.reduceMul, Int.reduceToNat, true_and, and_true, and_self, cP_eq, cP_ne, cP_lt, cP_ge, cP_gt, cP_le, eL_i, eL_l, eL_r, eL_n, Option.toList_none, Option.toList_some, List.nil_append, List.cons_append, kkI, llI, nnI, rrI, jjI, kkJ, llJ, nnJ, rrJ, iiJ, zIIs, zJJs, nEF, nET, and_false, false_and, jmin, jmax, catS_n, catS_i, catS_r, catS_l, Nat.reduceLeDiff, j1eq1, n21, jt0, jt1, Bool.false_eq_true, Classical.not_not, true_or, or_true, false_or, or_false, true_imp_iff, false_imp_iff, not_true_eq_false, not_false_eq_true, jif0, jif1, jifb, ltT, ltF, leT, leF, eqT, eqF, jlt, jle, jeq, jlt0, jle0, jeq0, jge0, jgt0, jinB, jnat, clt, cle, ceq, cgt, cge, lI_add, lI_sub, lI_mul, jadd, jsub, jmul, jneg, jtol, b010, b011, pv_2t, Int.toNat_natCast, Option.some.injEq, exists_eq_left', if_true, if_false, E2, show gRc 273 = 1 from rfl]
    exact q0 v0 e
end HLP
