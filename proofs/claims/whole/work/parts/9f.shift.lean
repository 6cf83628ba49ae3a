/-! the Model: shift, meets -/
abbrev shM (v w : RowVal) : Prop := (∀ i : Nat, i < 401 → w.2.2.2 ((i : Int) - 200) = v.2.2.2 ((i : Int) - 200 - (w.1 - v.1))) ∧ v.2.2.1 = w.2.2.1
theorem shM_iff {v w : RowVal} (gv : gV v) (gw : gV w) : shM v w ↔ shP v w := by
  have v1 := gv.1
  have w1 := gw.1
  have vz := gv.2.2.1
  have wz := gw.2.2.1
  constructor
  · rintro ⟨h, ht⟩
    have h' : ∀ m : Int, -200 ≤ m → m ≤ 200 → w.2.2.2 m = v.2.2.2 (m - (w.1 - v.1)) := fun m a b => by
      have := h (m + 200).toNat (by omega)
      rw [show (((m + 200).toNat : Nat) : Int) - 200 = m by omega] at this
      exact this
    -- all of v lies within, once moved
    have inn : v.2.1 + (w.1 - v.1) ≤ 200 := by
      by_cases c : v.2.1 + (w.1 - v.1) ≤ 200
      · exact c
      · exfalso
        have e1 : tS (fun m => v.2.2.2 (m + -(w.1 - v.1))) = v.2.2.1 := by
          rw [tS_shift (gv.spt.up (by omega)) (by omega)]
          exact gv.2.2.2.2.1.symm
        have e2 : w.2.2.1 = tS w.2.2.2 := gw.2.2.2.2.1
        have nn : ∀ m, 0 ≤ v.2.2.2 (m + -(w.1 - v.1)) + -1 * w.2.2.2 m := fun m => by
          by_cases y : -200 ≤ m ∧ m ≤ 200
          · rw [h' m y.1 y.2, show m + -(w.1 - v.1) = m - (w.1 - v.1) by omega]
            omega
          · rw [wz m (by omega)]
            have := gv.2.1 (m + -(w.1 - v.1))
            omega
        have ge := tS_ge nn (m := v.2.1 + (w.1 - v.1)) (by omega) (by omega)
        have e3 : tS (fun m => v.2.2.2 (m + -(w.1 - v.1)) + -1 * w.2.2.2 m) = tS (fun m => v.2.2.2 (m + -(w.1 - v.1))) + tS (fun m => -1 * w.2.2.2 m) := sm_add _
        rw [e3, e1, tS_cmul, ← e2] at ge
        have p := gv.2.2.2.1.2
        rw [show v.2.1 + (w.1 - v.1) + -(w.1 - v.1) = v.2.1 by omega, wz (v.2.1 + (w.1 - v.1)) (by omega)] at ge
        omega
    have top : v.2.1 + (w.1 - v.1) = w.2.1 := by
      have p1 := gv.2.2.2.1.2
      have p2 := gw.2.2.2.1.2
      have a := h' (v.2.1 + (w.1 - v.1)) (by omega) inn
      rw [show v.2.1 + (w.1 - v.1) - (w.1 - v.1) = v.2.1 by omega] at a
      have b := h' w.2.1 (by omega) (by omega)
      by_cases c1 : w.2.1 < v.2.1 + (w.1 - v.1)
      · rw [wz _ (by omega)] at a
        omega
      · by_cases c2 : v.2.1 + (w.1 - v.1) < w.2.1
        · rw [vz _ (by omega)] at b
          omega
        · omega
    refine ⟨top, fun n a b => ?_⟩
    rw [h' (n + (w.1 - v.1)) (by omega) (by omega), show n + (w.1 - v.1) - (w.1 - v.1) = n by omega]
  · rintro ⟨h1, h2⟩
    have al : ∀ m, w.2.2.2 m = v.2.2.2 (m - (w.1 - v.1)) := fun m => by
      by_cases c : v.1 ≤ m - (w.1 - v.1) ∧ m - (w.1 - v.1) ≤ v.2.1
      · rw [h2 _ c.1 c.2, show m - (w.1 - v.1) + (w.1 - v.1) = m by omega]
      · rw [vz _ c, wz m (by omega)]
    refine ⟨fun i _ => al _, ?_⟩
    have e1 : tS (fun m => v.2.2.2 (m + -(w.1 - v.1))) = v.2.2.1 := by
      rw [tS_shift (gv.spt.up (by omega)) (by omega)]
      exact gv.2.2.2.2.1.symm
    rw [← e1, gw.2.2.2.2.1]
    exact congrArg tS (funext fun m => (al m).symm)
theorem t_M_shift {d : Nat} {h : Hp} {m nm : Nat} {a b : Int} {F : Nat → Int} {V : Nat → RowVal} {Q : Nat → Option Value → Hp → Prop} (hm : mO h m) (n : mnS h m nm F V) (ha : i32 a) (hbb : i32 b)
    (h0 : ¬ ((0 ≤ a ∧ a < nm) ∧ 0 ≤ b ∧ b < nm) → ∀ g, mt0 h g m 1 → Q 0 (some (.int (iI 0))) g)
    (h1 : (0 ≤ a ∧ a < nm) ∧ 0 ≤ b ∧ b < nm → shP (V a.toNat) (V b.toNat) → ∀ g, mt0 h g m 0 → Q 0 (some (.int (iI ((V b.toNat).1 - (V a.toNat).1)))) g)
    (h3 : (0 ≤ a ∧ a < nm) ∧ 0 ≤ b ∧ b < nm → ¬ shP (V a.toNat) (V b.toNat) → ∀ g, mt0 h g m 0 → Q 0 (some (.int (iI 1000))) g) : PR (d + 2) m_M_shift [.ref m, .int (iI a), .int (iI b)] h Q := by
  have M := hm.k
  have n2 := n.2.1
  show PW (d + 2) 269 0 [some (.ref m), some (.int (iI a)), some (.int (iI b)), none, none, none, none] [] h Q
  have no : ¬ ((0 ≤ a ∧ a < nm) ∧ 0 ≤ b ∧ b < nm) → PW (d + 2) 269 9 [some (.ref m), some (.int (iI a)), some (.int (iI b)), none, none, none, none] [.ref m] h Q := fun c => by
    refine vs_ok 2 ?_
    rw [show ((gRes 269).drop 9).take 2 = [.iconst 1, .goto 12] from rfl]
    simp (disch := omega) only [vs_iconst, vs_goto, vs_nil, gv_0, gv_1, gv_2, gv_3, pv_0, pv_1, va_rf_s, Nat.reduceDiv, Nat.reduceMod, Nat.reduceAdd, Nat.reduceMul, Int.reduceToNat, true_and, and_true, and_self, cP_eq, cP_ne, cP_lt, cP_ge, cP_gt, cP_le, eL_i, eL_l, eL_r, eL_n, Option.toList_none, Option.toList_some, List.nil_append, List.cons_append, kkI, llI, nnI, rrI, jjI, kkJ, llJ, nnJ, rrJ, iiJ, zIIs, zJJs, nEF, nET, and_false, false_and, jmin, jmax, catS_n, catS_i, catS_r, catS_l, Nat.reduceLeDiff, j1eq1, n21, jt0, jt1, Bool.false_eq_true, Classical.not_not, true_or, or_true, false_or, or_false, true_imp_iff, false_imp_iff, not_true_eq_false, not_false_eq_true, jif0, jif1, jifb, ltT, ltF, leT, leF, eqT, eqF, jlt, jle, jeq, jlt0, jle0, jeq0, jge0, jgt0, jinB, jnat, clt, cle, ceq, cgt, cge, lI_add, lI_sub, lI_mul, jadd, jsub, jmul, jneg, jtol, b010, b011, pv_2t, Int.toNat_natCast, Option.some.injEq, exists_eq_left', if_true, if_false]
    refine PW.iv rfl rfl rfl M.1 M.2 (le_b rfl) (le_b rfl) ?_
    refine t_M_throwsIf hm (Or.inr rfl) fun g z => ⟨rfl, ⟨z.1.1.2.2.1, rfl⟩, ?_⟩
    refine vs_ok 1 ?_
    rw [show ((gRes 269).drop 13).take 1 = [.ifCond .eq 16] from rfl]
    simp (disch := omega) only [vs_ifCond, vs_nil, gv_0, gv_1, gv_2, gv_3, pv_0, pv_1, va_rf_s, Nat.reduceDiv, Nat.reduceMod, Nat.reduceAdd, Nat.reduceMul, Int.reduceToNat, true_and, and_true, and_self, cP_eq, cP_ne, cP_lt, cP_ge, cP_gt, cP_le, eL_i, eL_l, eL_r, eL_n, Option.toList_none, Option.toList_some, List.nil_append, List.cons_append, kkI, llI, nnI, rrI, jjI, kkJ, llJ, nnJ, rrJ, iiJ, zIIs, zJJs, nEF, nET, and_false, false_and, jmin, jmax, catS_n, catS_i, catS_r, catS_l, Nat.reduceLeDiff, j1eq1, n21, jt0, jt1, Bool.false_eq_true, Classical.not_not, true_or, or_true, false_or, or_false, true_imp_iff, false_imp_iff, not_true_eq_false, not_false_eq_true, jif0, jif1, jifb, ltT, ltF, leT, leF, eqT, eqF, jlt, jle, jeq, jlt0, jle0, jeq0, jge0, jgt0, jinB, jnat, clt, cle, ceq, cgt, cge, lI_add, lI_sub, lI_mul, jadd, jsub, jmul, jneg, jtol, b010, b011, pv_2t, Int.toNat_natCast, Option.some.injEq, exists_eq_left', if_true, if_false]
    refine vs_ok 2 ?_
    rw [show ((gRes 269).drop 14).take 2 = [.iconst 0, .ireturn] from rfl]
    simp (disch := omega) only [vs_iconst, vs_ireturn, vs_nil, gv_0, gv_1, gv_2, gv_3, pv_0, pv_1, va_rf_s, Nat.reduceDiv, Nat.reduceMod, Nat.reduceAdd, Nat.reduceMul, Int.reduceToNat, true_and, and_true, and_self, cP_eq, cP_ne, cP_lt, cP_ge, cP_gt, cP_le, eL_i, eL_l, eL_r, eL_n, Option.toList_none, Option.toList_some, List.nil_append, List.cons_append, kkI, llI, nnI, rrI, jjI, kkJ, llJ, nnJ, rrJ, iiJ, zIIs, zJJs, nEF, nET, and_false, false_and, jmin, jmax, catS_n, catS_i, catS_r, catS_l, Nat.reduceLeDiff, j1eq1, n21, jt0, jt1, Bool.false_eq_true, Classical.not_not, true_or, or_true, false_or, or_false, true_imp_iff, false_imp_iff, not_true_eq_false, not_false_eq_true, jif0, jif1, jifb, ltT, ltF, leT, leF, eqT, eqF, jlt, jle, jeq, jlt0, jle0, jeq0, jge0, jgt0, jinB, jnat, clt, cle, ceq, cgt, cge, lI_add, lI_sub, lI_mul, jadd, jsub, jmul, jneg, jtol, b010, b011, pv_2t, Int.toNat_natCast, Option.some.injEq, exists_eq_left', if_true, if_false, show gRc 269 = 1 from rfl]
    exact h0 c g z
  refine vs_ok 3 ?_
  rw [show ((gRes 269).drop 0).take 3 = [.aload 0, .aload 0, .iload 1] from rfl]
  simp (disch := omega) only [vs_aload0, vs_iload1, vs_nil, gv_0, gv_1, gv_2, gv_3, pv_0, pv_1, va_rf_s, Nat.reduceDiv, Nat.reduceMod, Nat.reduceAdd, Nat.reduceMul, Int.reduceToNat, true_and, and_true, and_self, cP_eq, cP_ne, cP_lt, cP_ge, cP_gt, cP_le, eL_i, eL_l, eL_r, eL_n, Option.toList_none, Option.toList_some, List.nil_append, List.cons_append, kkI, llI, nnI, rrI, jjI, kkJ, llJ, nnJ, rrJ, iiJ, zIIs, zJJs, nEF, nET, and_false, false_and, jmin, jmax, catS_n, catS_i, catS_r, catS_l, Nat.reduceLeDiff, j1eq1, n21, jt0, jt1, Bool.false_eq_true, Classical.not_not, true_or, or_true, false_or, or_false, true_imp_iff, false_imp_iff, not_true_eq_false, not_false_eq_true, jif0, jif1, jifb, ltT, ltF, leT, leF, eqT, eqF, jlt, jle, jeq, jlt0, jle0, jeq0, jge0, jgt0, jinB, jnat, clt, cle, ceq, cgt, cge, lI_add, lI_sub, lI_mul, jadd, jsub, jmul, jneg, jtol, b010, b011, pv_2t, Int.toNat_natCast, Option.some.injEq, exists_eq_left', if_true, if_false]
  refine PW.iv rfl rfl rfl M.1 M.2 (le_b rfl) (le_b rfl) ?_
  refine t_M_is hm n.1 n2 ha ⟨rfl, ⟨rfl, rfl⟩, ?_⟩
  by_cases ca : 0 ≤ a ∧ a < nm
  · rw [if_pos ca]
    refine vs_ok 3 ?_
    rw [show ((gRes 269).drop 4).take 3 = [.ifCond .eq 9, .aload 0, .iload 2] from rfl]
    simp (disch := omega) only [vs_ifCond, vs_aload0, vs_iload2, vs_nil, gv_0, gv_1, gv_2, gv_3, pv_0, pv_1, va_rf_s, Nat.reduceDiv, Nat.reduceMod, Nat.reduceAdd, Nat.reduceMul, Int.reduceToNat, true_and, and_true, and_self, cP_eq, cP_ne, cP_lt, cP_ge, cP_gt, cP_le, eL_i, eL_l, eL_r, eL_n, Option.toList_none, Option.toList_some, List.nil_append, List.cons_append, kkI, llI, nnI, rrI, jjI, kkJ, llJ, nnJ, rrJ, iiJ, zIIs, zJJs, nEF, nET, and_false, false_and, jmin, jmax, catS_n, catS_i, catS_r, catS_l, Nat.reduceLeDiff, j1eq1, n21, jt0, jt1, Bool.false_eq_true, Classical.not_not, true_or, or_true, false_or, or_false, true_imp_iff, false_imp_iff, not_true_eq_false, not_false_eq_true, jif0, jif1, jifb, ltT, ltF, leT, leF, eqT, eqF, jlt, jle, jeq, jlt0, jle0, jeq0, jge0, jgt0, jinB, jnat, clt, cle, ceq, cgt, cge, lI_add, lI_sub, lI_mul, jadd, jsub, jmul, jneg, jtol, b010, b011, pv_2t, Int.toNat_natCast, Option.some.injEq, exists_eq_left', if_true, if_false]
    refine PW.iv rfl rfl rfl M.1 M.2 (le_b rfl) (le_b rfl) ?_
    refine t_M_is hm n.1 n2 hbb ⟨rfl, ⟨rfl, rfl⟩, ?_⟩
    by_cases cb : 0 ≤ b ∧ b < nm
    · rw [if_pos cb]
      have h1 := h1 ⟨ca, cb⟩
      have h3 := h3 ⟨ca, cb⟩
      obtain ⟨a, rfl⟩ : ∃ j : Nat, a = j := ⟨a.toNat, by omega⟩
      obtain ⟨b, rfl⟩ : ∃ j : Nat, b = j := ⟨b.toNat, by omega⟩
      simp only [Int.toNat_natCast] at h1 h3
      refine vs_ok 1 ?_
      rw [show ((gRes 269).drop 8).take 1 = [.ifCond .ne 11] from rfl]
      simp (disch := omega) only [vs_ifCond, vs_nil, gv_0, gv_1, gv_2, gv_3, pv_0, pv_1, va_rf_s, Nat.reduceDiv, Nat.reduceMod, Nat.reduceAdd, Nat.reduceMul, Int.reduceToNat, true_and, and_true, and_self, cP_eq, cP_ne, cP_lt, cP_ge, cP_gt, cP_le, eL_i, eL_l, eL_r, eL_n, Option.toList_none, Option.toList_some, List.nil_append, List.cons_append, kkI, llI, nnI, rrI, jjI, kkJ, llJ, nnJ, rrJ, iiJ, zIIs, zJJs, nEF, nET, and_false, false_and, jmin, jmax, catS_n, catS_i, catS_r, catS_l, Nat.reduceLeDiff, j1eq1, n21, jt0, jt1, Bool.false_eq_true, Classical.not_not, true_or, or_true, false_or, or_false, true_imp_iff, false_imp_iff, not_true_eq_false, not_false_eq_true, jif0, jif1, jifb, ltT, ltF, leT, leF, eqT, eqF, jlt, jle, jeq, jlt0, jle0, jeq0, jge0, jgt0, jinB, jnat, clt, cle, ceq, cgt, cge, lI_add, lI_sub, lI_mul, jadd, jsub, jmul, jneg, jtol, b010, b011, pv_2t, Int.toNat_natCast, Option.some.injEq, exists_eq_left', if_true, if_false]
      refine vs_ok 1 ?_
      rw [show ((gRes 269).drop 11).take 1 = [.iconst 0] from rfl]
      simp (disch := omega) only [vs_iconst, vs_nil, gv_0, gv_1, gv_2, gv_3, pv_0, pv_1, va_rf_s, Nat.reduceDiv, Nat.reduceMod, Nat.reduceAdd, Nat.reduceMul, Int.reduceToNat, true_and, and_true, and_self, cP_eq, cP_ne, cP_lt, cP_ge, cP_gt, cP_le, eL_i, eL_l, eL_r, eL_n, Option.toList_none, Option.toList_some, List.nil_append, List.cons_append, kkI, llI, nnI, rrI, jjI, kkJ, llJ, nnJ, rrJ, iiJ, zIIs, zJJs, nEF, nET, and_false, false_and, jmin, jmax, catS_n, catS_i, catS_r, catS_l, Nat.reduceLeDiff, j1eq1, n21, jt0, jt1, Bool.false_eq_true, Classical.not_not, true_or, or_true, false_or, or_false, true_imp_iff, false_imp_iff, not_true_eq_false, not_false_eq_true, jif0, jif1, jifb, ltT, ltF, leT, leF, eqT, eqF, jlt, jle, jeq, jlt0, jle0, jeq0, jge0, jgt0, jinB, jnat, clt, cle, ceq, cgt, cge, lI_add, lI_sub, lI_mul, jadd, jsub, jmul, jneg, jtol, b010, b011, pv_2t, Int.toNat_natCast, Option.some.injEq, exists_eq_left', if_true, if_false]
      refine PW.iv rfl rfl rfl M.1 M.2 (le_b rfl) (le_b rfl) ?_
      refine t_M_throwsIf hm (Or.inl rfl) fun g z => ⟨rfl, ⟨z.1.1.2.2.1, rfl⟩, ?_⟩
      have hg := hm.fi z.1
      have ng := n.fi z.1 (by omega) (by omega) (by omega) (by omega)
      have M1 := hg.k
      have A := hg.pool
      have A2 := hg.alls
      have xa := ng.2.2 a (by omega)
      have xb := ng.2.2 b (by omega)
      have va := xa.2.1
      have vb := xb.2.1
      have ga := xa.2.2
      have gb := xb.2.2
      have v2 := va.2
      have v3 := vb.2
      refine vs_ok 1 ?_
      rw [show ((gRes 269).drop 13).take 1 = [.ifCond .eq 16] from rfl]
      simp (disch := omega) only [vs_ifCond, vs_nil, gv_0, gv_1, gv_2, gv_3, pv_0, pv_1, va_rf_s, Nat.reduceDiv, Nat.reduceMod, Nat.reduceAdd, Nat.reduceMul, Int.reduceToNat, true_and, and_true, and_self, cP_eq, cP_ne, cP_lt, cP_ge, cP_gt, cP_le, eL_i, eL_l, eL_r, eL_n, Option.toList_none, Option.toList_some, List.nil_append, List.cons_append, kkI, llI, nnI, rrI, jjI, kkJ, llJ, nnJ, rrJ, iiJ, zIIs, zJJs, nEF, nET, and_false, false_and, jmin, jmax, catS_n, catS_i, catS_r, catS_l, Nat.reduceLeDiff, j1eq1, n21, jt0, jt1, Bool.false_eq_true, Classical.not_not, true_or, or_true, false_or, or_false, true_imp_iff, false_imp_iff, not_true_eq_false, not_false_eq_true, jif0, jif1, jifb, ltT, ltF, leT, leF, eqT, eqF, jlt, jle, jeq, jlt0, jle0, jeq0, jge0, jgt0, jinB, jnat, clt, cle, ceq, cgt, cge, lI_add, lI_sub, lI_mul, jadd, jsub, jmul, jneg, jtol, b010, b011, pv_2t, Int.toNat_natCast, Option.some.injEq, exists_eq_left', if_true, if_false]
      refine vs_ok 2 ?_
      rw [show ((gRes 269).drop 16).take 2 = [.aload 0, .iload 2] from rfl]
      simp (disch := omega) only [vs_aload0, vs_iload2, vs_nil, gv_0, gv_1, gv_2, gv_3, pv_0, pv_1, va_rf_s, Nat.reduceDiv, Nat.reduceMod, Nat.reduceAdd, Nat.reduceMul, Int.reduceToNat, true_and, and_true, and_self, cP_eq, cP_ne, cP_lt, cP_ge, cP_gt, cP_le, eL_i, eL_l, eL_r, eL_n, Option.toList_none, Option.toList_some, List.nil_append, List.cons_append, kkI, llI, nnI, rrI, jjI, kkJ, llJ, nnJ, rrJ, iiJ, zIIs, zJJs, nEF, nET, and_false, false_and, jmin, jmax, catS_n, catS_i, catS_r, catS_l, Nat.reduceLeDiff, j1eq1, n21, jt0, jt1, Bool.false_eq_true, Classical.not_not, true_or, or_true, false_or, or_false, true_imp_iff, false_imp_iff, not_true_eq_false, not_false_eq_true, jif0, jif1, jifb, ltT, ltF, leT, leF, eqT, eqF, jlt, jle, jeq, jlt0, jle0, jeq0, jge0, jgt0, jinB, jnat, clt, cle, ceq, cgt, cge, lI_add, lI_sub, lI_mul, jadd, jsub, jmul, jneg, jtol, b010, b011, pv_2t, Int.toNat_natCast, Option.some.injEq, exists_eq_left', if_true, if_false]
      refine PW.iv rfl rfl rfl M1.1 M1.2 (le_b rfl) (le_b rfl) ?_
      refine t_M_lowest hg (by omega) vb gb ⟨rfl, ⟨rfl, rfl⟩, ?_⟩
      refine vs_ok 2 ?_
      rw [show ((gRes 269).drop 19).take 2 = [.aload 0, .iload 1] from rfl]
      simp (disch := omega) only [vs_aload0, vs_iload1, vs_nil, gv_0, gv_1, gv_2, gv_3, pv_0, pv_1, va_rf_s, Nat.reduceDiv, Nat.reduceMod, Nat.reduceAdd, Nat.reduceMul, Int.reduceToNat, true_and, and_true, and_self, cP_eq, cP_ne, cP_lt, cP_ge, cP_gt, cP_le, eL_i, eL_l, eL_r, eL_n, Option.toList_none, Option.toList_some, List.nil_append, List.cons_append, kkI, llI, nnI, rrI, jjI, kkJ, llJ, nnJ, rrJ, iiJ, zIIs, zJJs, nEF, nET, and_false, false_and, jmin, jmax, catS_n, catS_i, catS_r, catS_l, Nat.reduceLeDiff, j1eq1, n21, jt0, jt1, Bool.false_eq_true, Classical.not_not, true_or, or_true, false_or, or_false, true_imp_iff, false_imp_iff, not_true_eq_false, not_false_eq_true, jif0, jif1, jifb, ltT, ltF, leT, leF, eqT, eqF, jlt, jle, jeq, jlt0, jle0, jeq0, jge0, jgt0, jinB, jnat, clt, cle, ceq, cgt, cge, lI_add, lI_sub, lI_mul, jadd, jsub, jmul, jneg, jtol, b010, b011, pv_2t, Int.toNat_natCast, Option.some.injEq, exists_eq_left', if_true, if_false]
      refine PW.iv rfl rfl rfl M1.1 M1.2 (le_b rfl) (le_b rfl) ?_
      refine t_M_lowest hg (by omega) va ga ⟨rfl, ⟨rfl, rfl⟩, ?_⟩
      have h1 := fun y => h1 y g z
      have h3 := fun y => h3 y g z
      have iff := shM_iff ga gb
      have a1 := ga.1
      have b1 := gb.1
      have ia := ga.le
      have ja := ga.2.1
      have ib := gb.le
      have jb := gb.2.1
      have ta := ga.2.2.2.2.2
      have tb := gb.2.2.2.2.2
      have az := ga.2.2.1
      generalize V a = v at *
      generalize V b = w at *
      have lp : ∀ (j i : Nat) (o o2 : Option Value), j + i = 401 → (∀ q : Nat, q < i → w.2.2.2 ((q : Int) - 200) = v.2.2.2 ((q : Int) - 200 - (w.1 - v.1))) → PW (d + 2) 269 26 [some (.ref m), some (.int (iI a)), some (.int (iI b)), some (.int (iI (w.1 - v.1))), some (.int (iI i)), o, o2] [] g Q := by
        intro j
        induction j with
        | zero =>
          intro i o o2 hi hA
          have e : i = 401 := by omega
          subst e
          refine vs_ok 3 ?_
          rw [show ((gRes 269).drop 26).take 3 = [.iload 4, .iconst 401, .if_icmp .ge 64] from rfl]
          simp (disch := omega) only [vs_iconst, vs_if_icmp, vs_iload4, vs_nil, gv_0, gv_1, gv_2, gv_3, pv_0, pv_1, va_rf_s, Nat.reduceDiv, Nat.reduceMod, Nat.reduceAdd, Nat.reduceMul, Int.reduceToNat, true_and, and_true, and_self, cP_eq, cP_ne, cP_lt, cP_ge, cP_gt, cP_le, eL_i, eL_l, eL_r, eL_n, Option.toList_none, Option.toList_some, List.nil_append, List.cons_append, kkI, llI, nnI, rrI, jjI, kkJ, llJ, nnJ, rrJ, iiJ, zIIs, zJJs, nEF, nET, and_false, false_and, jmin, jmax, catS_n, catS_i, catS_r, catS_l, Nat.reduceLeDiff, j1eq1, n21, jt0, jt1, Bool.false_eq_true, Classical.not_not, true_or, or_true, false_or, or_false, true_imp_iff, false_imp_iff, not_true_eq_false, not_false_eq_true, jif0, jif1, jifb, ltT, ltF, leT, leF, eqT, eqF, jlt, jle, jeq, jlt0, jle0, jeq0, jge0, jgt0, jinB, jnat, clt, cle, ceq, cgt, cge, lI_add, lI_sub, lI_mul, jadd, jsub, jmul, jneg, jtol, b010, b011, pv_2t, Int.toNat_natCast, Option.some.injEq, exists_eq_left', if_true, if_false]
          by_cases c : v.2.2.1 = w.2.2.1
          · refine vs_ok 10 ?_
            rw [show ((gRes 269).drop 64).take 10 = [.aload 0, .getfield 12062, .iload 1, .laload, .aload 0, .getfield 12062, .iload 2, .laload, .lcmp, .ifCond .ne 76] from rfl]
            simp (disch := omega) only [vs_lcmp, vs_ifCond, vs_getfield, vs_laload, vs_aload0, vs_iload1, vs_iload2, vs_nil, gv_0, gv_1, gv_2, gv_3, pv_0, pv_1, va_rf_s, Nat.reduceDiv, Nat.reduceMod, Nat.reduceAdd, Nat.reduceMul, Int.reduceToNat, true_and, and_true, and_self, cP_eq, cP_ne, cP_lt, cP_ge, cP_gt, cP_le, eL_i, eL_l, eL_r, eL_n, Option.toList_none, Option.toList_some, List.nil_append, List.cons_append, kkI, llI, nnI, rrI, jjI, kkJ, llJ, nnJ, rrJ, iiJ, zIIs, zJJs, nEF, nET, and_false, false_and, jmin, jmax, catS_n, catS_i, catS_r, catS_l, Nat.reduceLeDiff, j1eq1, n21, jt0, jt1, Bool.false_eq_true, Classical.not_not, true_or, or_true, false_or, or_false, true_imp_iff, false_imp_iff, not_true_eq_false, not_false_eq_true, jif0, jif1, jifb, ltT, ltF, leT, leF, eqT, eqF, jlt, jle, jeq, jlt0, jle0, jeq0, jge0, jgt0, jinB, jnat, clt, cle, ceq, cgt, cge, lI_add, lI_sub, lI_mul, jadd, jsub, jmul, jneg, jtol, b010, b011, pv_2t, Int.toNat_natCast, Option.some.injEq, exists_eq_left', if_true, if_false, M1, A2, v2, v3]
            refine vs_ok 2 ?_
            rw [show ((gRes 269).drop 74).take 2 = [.iload 3, .goto 77] from rfl]
            simp (disch := omega) only [vs_goto, vs_iload3, vs_nil, gv_0, gv_1, gv_2, gv_3, pv_0, pv_1, va_rf_s, Nat.reduceDiv, Nat.reduceMod, Nat.reduceAdd, Nat.reduceMul, Int.reduceToNat, true_and, and_true, and_self, cP_eq, cP_ne, cP_lt, cP_ge, cP_gt, cP_le, eL_i, eL_l, eL_r, eL_n, Option.toList_none, Option.toList_some, List.nil_append, List.cons_append, kkI, llI, nnI, rrI, jjI, kkJ, llJ, nnJ, rrJ, iiJ, zIIs, zJJs, nEF, nET, and_false, false_and, jmin, jmax, catS_n, catS_i, catS_r, catS_l, Nat.reduceLeDiff, j1eq1, n21, jt0, jt1, Bool.false_eq_true, Classical.not_not, true_or, or_true, false_or, or_false, true_imp_iff, false_imp_iff, not_true_eq_false, not_false_eq_true, jif0, jif1, jifb, ltT, ltF, leT, leF, eqT, eqF, jlt, jle, jeq, jlt0, jle0, jeq0, jge0, jgt0, jinB, jnat, clt, cle, ceq, cgt, cge, lI_add, lI_sub, lI_mul, jadd, jsub, jmul, jneg, jtol, b010, b011, pv_2t, Int.toNat_natCast, Option.some.injEq, exists_eq_left', if_true, if_false]
            refine vs_ok 1 ?_
            rw [show ((gRes 269).drop 77).take 1 = [.ireturn] from rfl]
            simp (disch := omega) only [vs_ireturn, vs_nil, gv_0, gv_1, gv_2, gv_3, pv_0, pv_1, va_rf_s, Nat.reduceDiv, Nat.reduceMod, Nat.reduceAdd, Nat.reduceMul, Int.reduceToNat, true_and, and_true, and_self, cP_eq, cP_ne, cP_lt, cP_ge, cP_gt, cP_le, eL_i, eL_l, eL_r, eL_n, Option.toList_none, Option.toList_some, List.nil_append, List.cons_append, kkI, llI, nnI, rrI, jjI, kkJ, llJ, nnJ, rrJ, iiJ, zIIs, zJJs, nEF, nET, and_false, false_and, jmin, jmax, catS_n, catS_i, catS_r, catS_l, Nat.reduceLeDiff, j1eq1, n21, jt0, jt1, Bool.false_eq_true, Classical.not_not, true_or, or_true, false_or, or_false, true_imp_iff, false_imp_iff, not_true_eq_false, not_false_eq_true, jif0, jif1, jifb, ltT, ltF, leT, leF, eqT, eqF, jlt, jle, jeq, jlt0, jle0, jeq0, jge0, jgt0, jinB, jnat, clt, cle, ceq, cgt, cge, lI_add, lI_sub, lI_mul, jadd, jsub, jmul, jneg, jtol, b010, b011, pv_2t, Int.toNat_natCast, Option.some.injEq, exists_eq_left', if_true, if_false, show gRc 269 = 1 from rfl]
            exact h1 (iff.mp ⟨hA, c⟩)
          · refine vs_ok 10 ?_
            rw [show ((gRes 269).drop 64).take 10 = [.aload 0, .getfield 12062, .iload 1, .laload, .aload 0, .getfield 12062, .iload 2, .laload, .lcmp, .ifCond .ne 76] from rfl]
            simp (disch := omega) only [vs_lcmp, vs_ifCond, vs_getfield, vs_laload, vs_aload0, vs_iload1, vs_iload2, vs_nil, gv_0, gv_1, gv_2, gv_3, pv_0, pv_1, va_rf_s, Nat.reduceDiv, Nat.reduceMod, Nat.reduceAdd, Nat.reduceMul, Int.reduceToNat, true_and, and_true, and_self, cP_eq, cP_ne, cP_lt, cP_ge, cP_gt, cP_le, eL_i, eL_l, eL_r, eL_n, Option.toList_none, Option.toList_some, List.nil_append, List.cons_append, kkI, llI, nnI, rrI, jjI, kkJ, llJ, nnJ, rrJ, iiJ, zIIs, zJJs, nEF, nET, and_false, false_and, jmin, jmax, catS_n, catS_i, catS_r, catS_l, Nat.reduceLeDiff, j1eq1, n21, jt0, jt1, Bool.false_eq_true, Classical.not_not, true_or, or_true, false_or, or_false, true_imp_iff, false_imp_iff, not_true_eq_false, not_false_eq_true, jif0, jif1, jifb, ltT, ltF, leT, leF, eqT, eqF, jlt, jle, jeq, jlt0, jle0, jeq0, jge0, jgt0, jinB, jnat, clt, cle, ceq, cgt, cge, lI_add, lI_sub, lI_mul, jadd, jsub, jmul, jneg, jtol, b010, b011, pv_2t, Int.toNat_natCast, Option.some.injEq, exists_eq_left', if_true, if_false, M1, A2, v2, v3]
            refine vs_ok 2 ?_
            rw [show ((gRes 269).drop 76).take 2 = [.iconst 1000, .ireturn] from rfl]
            simp (disch := omega) only [vs_iconst, vs_ireturn, vs_nil, gv_0, gv_1, gv_2, gv_3, pv_0, pv_1, va_rf_s, Nat.reduceDiv, Nat.reduceMod, Nat.reduceAdd, Nat.reduceMul, Int.reduceToNat, true_and, and_true, and_self, cP_eq, cP_ne, cP_lt, cP_ge, cP_gt, cP_le, eL_i, eL_l, eL_r, eL_n, Option.toList_none, Option.toList_some, List.nil_append, List.cons_append, kkI, llI, nnI, rrI, jjI, kkJ, llJ, nnJ, rrJ, iiJ, zIIs, zJJs, nEF, nET, and_false, false_and, jmin, jmax, catS_n, catS_i, catS_r, catS_l, Nat.reduceLeDiff, j1eq1, n21, jt0, jt1, Bool.false_eq_true, Classical.not_not, true_or, or_true, false_or, or_false, true_imp_iff, false_imp_iff, not_true_eq_false, not_false_eq_true, jif0, jif1, jifb, ltT, ltF, leT, leF, eqT, eqF, jlt, jle, jeq, jlt0, jle0, jeq0, jge0, jgt0, jinB, jnat, clt, cle, ceq, cgt, cge, lI_add, lI_sub, lI_mul, jadd, jsub, jmul, jneg, jtol, b010, b011, pv_2t, Int.toNat_natCast, Option.some.injEq, exists_eq_left', if_true, if_false, show gRc 269 = 1 from rfl]
            exact h3 fun y => c (iff.mpr y).2
        | succ j ih =>
          intro i o o2 hi hA
          have e2 : (401 : Int) * (b : Int) + (i : Int) = ((401 * b + i : Nat) : Int) := by omega
          have x2 := vb.1 i (by omega)
          have wi := ib ((i : Int) - 200)
          have wj := jb ((i : Int) - 200)
          -- what is compared with
          have nx : ∀ u : Int, u = v.2.2.2 ((i : Int) - 200 - (w.1 - v.1)) → 0 ≤ u ∧ u ≤ 1000000000 → PW (d + 2) 269 48 [some (.ref m), some (.int (iI a)), some (.int (iI b)), some (.int (iI (w.1 - v.1))), some (.int (iI i)), o, o2] [.long (lI u)] g Q := fun u hu hb => by
            by_cases c : w.2.2.2 ((i : Int) - 200) = u
            · refine vs_ok 12 ?_
              rw [show ((gRes 269).drop 48).take 12 = [.lstore 5, .aload 0, .getfield 12052, .iconst 401, .iload 2, .imul, .iload 4, .iadd, .laload, .lload 5, .lcmp, .ifCond .eq 62] from rfl]
              simp (disch := omega) only [vs_iadd, vs_imul, vs_lcmp, vs_iconst, vs_ifCond, vs_getfield, vs_laload, vs_aload0, vs_iload2, vs_iload4, vs_lload5, vs_lstore5n, vs_lstore5i, vs_lstore5r, vs_lstore5l, vs_nil, gv_0, gv_1, gv_2, gv_3, pv_0, pv_1, va_rf_s, Nat.reduceDiv, Nat.reduceMod, Nat.reduceAdd, Nat.reduceMul, Int.reduceToNat, true_and, and_true, and_self, cP_eq, cP_ne, cP_lt, cP_ge, cP_gt, cP_le, eL_i, eL_l, eL_r, eL_n, Option.toList_none, Option.toList_some, List.nil_append, List.cons_append, kkI, llI, nnI, rrI, jjI, kkJ, llJ, nnJ, rrJ, iiJ, zIIs, zJJs, nEF, nET, and_false, false_and, jmin, jmax, catS_n, catS_i, catS_r, catS_l, Nat.reduceLeDiff, j1eq1, n21, jt0, jt1, Bool.false_eq_true, Classical.not_not, true_or, or_true, false_or, or_false, true_imp_iff, false_imp_iff, not_true_eq_false, not_false_eq_true, jif0, jif1, jifb, ltT, ltF, leT, leF, eqT, eqF, jlt, jle, jeq, jlt0, jle0, jeq0, jge0, jgt0, jinB, jnat, clt, cle, ceq, cgt, cge, lI_add, lI_sub, lI_mul, jadd, jsub, jmul, jneg, jtol, b010, b011, pv_2t, Int.toNat_natCast, Option.some.injEq, exists_eq_left', if_true, if_false, M1, A, e2, x2]
              refine vs_ok 2 ?_
              rw [show ((gRes 269).drop 62).take 2 = [.iinc 4 1, .goto 26] from rfl]
              simp (disch := omega) only [vs_goto, vs_iinc4n, vs_iinc4i, vs_iinc4r, vs_iinc4l, vs_nil, gv_0, gv_1, gv_2, gv_3, pv_0, pv_1, va_rf_s, Nat.reduceDiv, Nat.reduceMod, Nat.reduceAdd, Nat.reduceMul, Int.reduceToNat, true_and, and_true, and_self, cP_eq, cP_ne, cP_lt, cP_ge, cP_gt, cP_le, eL_i, eL_l, eL_r, eL_n, Option.toList_none, Option.toList_some, List.nil_append, List.cons_append, kkI, llI, nnI, rrI, jjI, kkJ, llJ, nnJ, rrJ, iiJ, zIIs, zJJs, nEF, nET, and_false, false_and, jmin, jmax, catS_n, catS_i, catS_r, catS_l, Nat.reduceLeDiff, j1eq1, n21, jt0, jt1, Bool.false_eq_true, Classical.not_not, true_or, or_true, false_or, or_false, true_imp_iff, false_imp_iff, not_true_eq_false, not_false_eq_true, jif0, jif1, jifb, ltT, ltF, leT, leF, eqT, eqF, jlt, jle, jeq, jlt0, jle0, jeq0, jge0, jgt0, jinB, jnat, clt, cle, ceq, cgt, cge, lI_add, lI_sub, lI_mul, jadd, jsub, jmul, jneg, jtol, b010, b011, pv_2t, Int.toNat_natCast, Option.some.injEq, exists_eq_left', if_true, if_false]
              exact ih (i + 1) _ _ (by omega) fun q hq => by
                by_cases y : q = i
                · rw [y, c, hu]
                · exact hA q (by omega)
            · refine vs_ok 12 ?_
              rw [show ((gRes 269).drop 48).take 12 = [.lstore 5, .aload 0, .getfield 12052, .iconst 401, .iload 2, .imul, .iload 4, .iadd, .laload, .lload 5, .lcmp, .ifCond .eq 62] from rfl]
              simp (disch := omega) only [vs_iadd, vs_imul, vs_lcmp, vs_iconst, vs_ifCond, vs_getfield, vs_laload, vs_aload0, vs_iload2, vs_iload4, vs_lload5, vs_lstore5n, vs_lstore5i, vs_lstore5r, vs_lstore5l, vs_nil, gv_0, gv_1, gv_2, gv_3, pv_0, pv_1, va_rf_s, Nat.reduceDiv, Nat.reduceMod, Nat.reduceAdd, Nat.reduceMul, Int.reduceToNat, true_and, and_true, and_self, cP_eq, cP_ne, cP_lt, cP_ge, cP_gt, cP_le, eL_i, eL_l, eL_r, eL_n, Option.toList_none, Option.toList_some, List.nil_append, List.cons_append, kkI, llI, nnI, rrI, jjI, kkJ, llJ, nnJ, rrJ, iiJ, zIIs, zJJs, nEF, nET, and_false, false_and, jmin, jmax, catS_n, catS_i, catS_r, catS_l, Nat.reduceLeDiff, j1eq1, n21, jt0, jt1, Bool.false_eq_true, Classical.not_not, true_or, or_true, false_or, or_false, true_imp_iff, false_imp_iff, not_true_eq_false, not_false_eq_true, jif0, jif1, jifb, ltT, ltF, leT, leF, eqT, eqF, jlt, jle, jeq, jlt0, jle0, jeq0, jge0, jgt0, jinB, jnat, clt, cle, ceq, cgt, cge, lI_add, lI_sub, lI_mul, jadd, jsub, jmul, jneg, jtol, b010, b011, pv_2t, Int.toNat_natCast, Option.some.injEq, exists_eq_left', if_true, if_false, M1, A, e2, x2]
              refine vs_ok 2 ?_
              rw [show ((gRes 269).drop 60).take 2 = [.iconst 1000, .ireturn] from rfl]
              simp (disch := omega) only [vs_iconst, vs_ireturn, vs_nil, gv_0, gv_1, gv_2, gv_3, pv_0, pv_1, va_rf_s, Nat.reduceDiv, Nat.reduceMod, Nat.reduceAdd, Nat.reduceMul, Int.reduceToNat, true_and, and_true, and_self, cP_eq, cP_ne, cP_lt, cP_ge, cP_gt, cP_le, eL_i, eL_l, eL_r, eL_n, Option.toList_none, Option.toList_some, List.nil_append, List.cons_append, kkI, llI, nnI, rrI, jjI, kkJ, llJ, nnJ, rrJ, iiJ, zIIs, zJJs, nEF, nET, and_false, false_and, jmin, jmax, catS_n, catS_i, catS_r, catS_l, Nat.reduceLeDiff, j1eq1, n21, jt0, jt1, Bool.false_eq_true, Classical.not_not, true_or, or_true, false_or, or_false, true_imp_iff, false_imp_iff, not_true_eq_false, not_false_eq_true, jif0, jif1, jifb, ltT, ltF, leT, leF, eqT, eqF, jlt, jle, jeq, jlt0, jle0, jeq0, jge0, jgt0, jinB, jnat, clt, cle, ceq, cgt, cge, lI_add, lI_sub, lI_mul, jadd, jsub, jmul, jneg, jtol, b010, b011, pv_2t, Int.toNat_natCast, Option.some.injEq, exists_eq_left', if_true, if_false, show gRc 269 = 1 from rfl]
              exact h3 fun y => c ((iff.mpr y).1 i (by omega) |>.trans hu.symm)
          refine vs_ok 3 ?_
          rw [show ((gRes 269).drop 26).take 3 = [.iload 4, .iconst 401, .if_icmp .ge 64] from rfl]
          simp (disch := omega) only [vs_iconst, vs_if_icmp, vs_iload4, vs_nil, gv_0, gv_1, gv_2, gv_3, pv_0, pv_1, va_rf_s, Nat.reduceDiv, Nat.reduceMod, Nat.reduceAdd, Nat.reduceMul, Int.reduceToNat, true_and, and_true, and_self, cP_eq, cP_ne, cP_lt, cP_ge, cP_gt, cP_le, eL_i, eL_l, eL_r, eL_n, Option.toList_none, Option.toList_some, List.nil_append, List.cons_append, kkI, llI, nnI, rrI, jjI, kkJ, llJ, nnJ, rrJ, iiJ, zIIs, zJJs, nEF, nET, and_false, false_and, jmin, jmax, catS_n, catS_i, catS_r, catS_l, Nat.reduceLeDiff, j1eq1, n21, jt0, jt1, Bool.false_eq_true, Classical.not_not, true_or, or_true, false_or, or_false, true_imp_iff, false_imp_iff, not_true_eq_false, not_false_eq_true, jif0, jif1, jifb, ltT, ltF, leT, leF, eqT, eqF, jlt, jle, jeq, jlt0, jle0, jeq0, jge0, jgt0, jinB, jnat, clt, cle, ceq, cgt, cge, lI_add, lI_sub, lI_mul, jadd, jsub, jmul, jneg, jtol, b010, b011, pv_2t, Int.toNat_natCast, Option.some.injEq, exists_eq_left', if_true, if_false]
          refine vs_ok 5 ?_
          rw [show ((gRes 269).drop 29).take 5 = [.iload 4, .iload 3, .isub, .iconst 0, .iconst 400] from rfl]
          simp (disch := omega) only [vs_isub, vs_iconst, vs_iload3, vs_iload4, vs_nil, gv_0, gv_1, gv_2, gv_3, pv_0, pv_1, va_rf_s, Nat.reduceDiv, Nat.reduceMod, Nat.reduceAdd, Nat.reduceMul, Int.reduceToNat, true_and, and_true, and_self, cP_eq, cP_ne, cP_lt, cP_ge, cP_gt, cP_le, eL_i, eL_l, eL_r, eL_n, Option.toList_none, Option.toList_some, List.nil_append, List.cons_append, kkI, llI, nnI, rrI, jjI, kkJ, llJ, nnJ, rrJ, iiJ, zIIs, zJJs, nEF, nET, and_false, false_and, jmin, jmax, catS_n, catS_i, catS_r, catS_l, Nat.reduceLeDiff, j1eq1, n21, jt0, jt1, Bool.false_eq_true, Classical.not_not, true_or, or_true, false_or, or_false, true_imp_iff, false_imp_iff, not_true_eq_false, not_false_eq_true, jif0, jif1, jifb, ltT, ltF, leT, leF, eqT, eqF, jlt, jle, jeq, jlt0, jle0, jeq0, jge0, jgt0, jinB, jnat, clt, cle, ceq, cgt, cge, lI_add, lI_sub, lI_mul, jadd, jsub, jmul, jneg, jtol, b010, b011, pv_2t, Int.toNat_natCast, Option.some.injEq, exists_eq_left', if_true, if_false]
          refine PW.ss (r := []) rfl (le_b rfl) rfl rfl (le_b rfl) (le_b rfl) ?_
          refine t_M_isIn (by constructor <;> omega) (by constructor <;> omega) (by constructor <;> omega) ⟨rfl, ⟨rfl, rfl⟩, ?_⟩
          by_cases c : 0 ≤ (i : Int) - (w.1 - v.1) ∧ (i : Int) - (w.1 - v.1) ≤ 400
          · rw [if_pos c]
            obtain ⟨q, hq⟩ : ∃ q : Nat, (i : Int) - (w.1 - v.1) = q := ⟨((i : Int) - (w.1 - v.1)).toNat, by omega⟩
            have e1 : (401 : Int) * (a : Int) + (i : Int) - (w.1 - v.1) = ((401 * a + q : Nat) : Int) := by omega
            have x1 := va.1 q (by omega)
            rw [show (q : Int) - 200 = (i : Int) - 200 - (w.1 - v.1) by omega] at x1
            refine vs_ok 12 ?_
            rw [show ((gRes 269).drop 35).take 12 = [.ifCond .eq 47, .aload 0, .getfield 12052, .iconst 401, .iload 1, .imul, .iload 4, .iadd, .iload 3, .isub, .laload, .goto 48] from rfl]
            simp (disch := omega) only [vs_iadd, vs_isub, vs_imul, vs_iconst, vs_goto, vs_ifCond, vs_getfield, vs_laload, vs_aload0, vs_iload1, vs_iload3, vs_iload4, vs_nil, gv_0, gv_1, gv_2, gv_3, pv_0, pv_1, va_rf_s, Nat.reduceDiv, Nat.reduceMod, Nat.reduceAdd, Nat.reduceMul, Int.reduceToNat, true_and, and_true, and_self, cP_eq, cP_ne, cP_lt, cP_ge, cP_gt, cP_le, eL_i, eL_l, eL_r, eL_n, Option.toList_none, Option.toList_some, List.nil_append, List.cons_append, kkI, llI, nnI, rrI, jjI, kkJ, llJ, nnJ, rrJ, iiJ, zIIs, zJJs, nEF, nET, and_false, false_and, jmin, jmax, catS_n, catS_i, catS_r, catS_l, Nat.reduceLeDiff, j1eq1, n21, jt0, jt1, Bool.false_eq_true, Classical.not_not, true_or, or_true, false_or, or_false, true_imp_iff, false_imp_iff, not_true_eq_false, not_false_eq_true, jif0, jif1, jifb, ltT, ltF, leT, leF, eqT, eqF, jlt, jle, jeq, jlt0, jle0, jeq0, jge0, jgt0, jinB, jnat, clt, cle, ceq, cgt, cge, lI_add, lI_sub, lI_mul, jadd, jsub, jmul, jneg, jtol, b010, b011, pv_2t, Int.toNat_natCast, Option.some.injEq, exists_eq_left', if_true, if_false, M1, A, e1, x1]
            exact nx _ rfl ⟨ja _, ia _⟩
          · rw [if_neg c]
            refine vs_ok 1 ?_
            rw [show ((gRes 269).drop 35).take 1 = [.ifCond .eq 47] from rfl]
            simp (disch := omega) only [vs_ifCond, vs_nil, gv_0, gv_1, gv_2, gv_3, pv_0, pv_1, va_rf_s, Nat.reduceDiv, Nat.reduceMod, Nat.reduceAdd, Nat.reduceMul, Int.reduceToNat, true_and, and_true, and_self, cP_eq, cP_ne, cP_lt, cP_ge, cP_gt, cP_le, eL_i, eL_l, eL_r, eL_n, Option.toList_none, Option.toList_some, List.nil_append, List.cons_append, kkI, llI, nnI, rrI, jjI, kkJ, llJ, nnJ, rrJ, iiJ, zIIs, zJJs, nEF, nET, and_false, false_and, jmin, jmax, catS_n, catS_i, catS_r, catS_l, Nat.reduceLeDiff, j1eq1, n21, jt0, jt1, Bool.false_eq_true, Classical.not_not, true_or, or_true, false_or, or_false, true_imp_iff, false_imp_iff, not_true_eq_false, not_false_eq_true, jif0, jif1, jifb, ltT, ltF, leT, leF, eqT, eqF, jlt, jle, jeq, jlt0, jle0, jeq0, jge0, jgt0, jinB, jnat, clt, cle, ceq, cgt, cge, lI_add, lI_sub, lI_mul, jadd, jsub, jmul, jneg, jtol, b010, b011, pv_2t, Int.toNat_natCast, Option.some.injEq, exists_eq_left', if_true, if_false]
            refine vs_ok 1 ?_
            rw [show ((gRes 269).drop 47).take 1 = [.jsr_w 0] from rfl]
            simp (disch := omega) only [vs_jsr_w, vs_nil, gv_0, gv_1, gv_2, gv_3, pv_0, pv_1, va_rf_s, Nat.reduceDiv, Nat.reduceMod, Nat.reduceAdd, Nat.reduceMul, Int.reduceToNat, true_and, and_true, and_self, cP_eq, cP_ne, cP_lt, cP_ge, cP_gt, cP_le, eL_i, eL_l, eL_r, eL_n, Option.toList_none, Option.toList_some, List.nil_append, List.cons_append, kkI, llI, nnI, rrI, jjI, kkJ, llJ, nnJ, rrJ, iiJ, zIIs, zJJs, nEF, nET, and_false, false_and, jmin, jmax, catS_n, catS_i, catS_r, catS_l, Nat.reduceLeDiff, j1eq1, n21, jt0, jt1, Bool.false_eq_true, Classical.not_not, true_or, or_true, false_or, or_false, true_imp_iff, false_imp_iff, not_true_eq_false, not_false_eq_true, jif0, jif1, jifb, ltT, ltF, leT, leF, eqT, eqF, jlt, jle, jeq, jlt0, jle0, jeq0, jge0, jgt0, jinB, jnat, clt, cle, ceq, cgt, cge, lI_add, lI_sub, lI_mul, jadd, jsub, jmul, jneg, jtol, b010, b011, pv_2t, Int.toNat_natCast, Option.some.injEq, exists_eq_left', if_true, if_false]
            exact nx 0 (az _ (by omega)).symm (by omega)
      refine vs_ok 4 ?_
      rw [show ((gRes 269).drop 22).take 4 = [.isub, .istore 3, .iconst 0, .istore 4] from rfl]
      simp (disch := omega) only [vs_isub, vs_iconst, vs_istore3n, vs_istore3i, vs_istore3r, vs_istore3l, vs_istore4n, vs_istore4i, vs_istore4r, vs_istore4l, vs_nil, gv_0, gv_1, gv_2, gv_3, pv_0, pv_1, va_rf_s, Nat.reduceDiv, Nat.reduceMod, Nat.reduceAdd, Nat.reduceMul, Int.reduceToNat, true_and, and_true, and_self, cP_eq, cP_ne, cP_lt, cP_ge, cP_gt, cP_le, eL_i, eL_l, eL_r, eL_n, Option.toList_none, Option.toList_some, List.nil_append, List.cons_append, kkI, llI, nnI, rrI, jjI, kkJ, llJ, nnJ, rrJ, iiJ, zIIs, zJJs, nEF, nET, and_false, false_and, jmin, jmax, catS_n, catS_i, catS_r, catS_l, Nat.reduceLeDiff, j1eq1, n21, jt0, jt1, Bool.false_eq_true, Classical.not_not, true_or, or_true, false_or, or_false, true_imp_iff, false_imp_iff, not_true_eq_false, not_false_eq_true, jif0, jif1, jifb, ltT, ltF, leT, leF, eqT, eqF, jlt, jle, jeq, jlt0, jle0, jeq0, jge0, jgt0, jinB, jnat, clt, cle, ceq, cgt, cge, lI_add, lI_sub, lI_mul, jadd, jsub, jmul, jneg, jtol, b010, b011, pv_2t, Int.toNat_natCast, Option.some.injEq, exists_eq_left', if_true, if_false]
      exact lp 401 0 none none rfl fun q hq => absurd hq (by omega)
    · rw [if_neg cb]
      refine vs_ok 1 ?_
      rw [show ((gRes 269).drop 8).take 1 = [.ifCond .ne 11] from rfl]
      simp (disch := omega) only [vs_ifCond, vs_nil, gv_0, gv_1, gv_2, gv_3, pv_0, pv_1, va_rf_s, Nat.reduceDiv, Nat.reduceMod, Nat.reduceAdd, Nat.reduceMul, Int.reduceToNat, true_and, and_true, and_self, cP_eq, cP_ne, cP_lt, cP_ge, cP_gt, cP_le, eL_i, eL_l, eL_r, eL_n, Option.toList_none, Option.toList_some, List.nil_append, List.cons_append, kkI, llI, nnI, rrI, jjI, kkJ, llJ, nnJ, rrJ, iiJ, zIIs, zJJs, nEF, nET, and_false, false_and, jmin, jmax, catS_n, catS_i, catS_r, catS_l, Nat.reduceLeDiff, j1eq1, n21, jt0, jt1, Bool.false_eq_true, Classical.not_not, true_or, or_true, false_or, or_false, true_imp_iff, false_imp_iff, not_true_eq_false, not_false_eq_true, jif0, jif1, jifb, ltT, ltF, leT, leF, eqT, eqF, jlt, jle, jeq, jlt0, jle0, jeq0, jge0, jgt0, jinB, jnat, clt, cle, ceq, cgt, cge, lI_add, lI_sub, lI_mul, jadd, jsub, jmul, jneg, jtol, b010, b011, pv_2t, Int.toNat_natCast, Option.some.injEq, exists_eq_left', if_true, if_false]
      exact no fun z => cb z.2
  · rw [if_neg ca]
    refine vs_ok 1 ?_
    rw [show ((gRes 269).drop 4).take 1 = [.ifCond .eq 9] from rfl]
    simp (disch := omega) only [vs_ifCond, vs_nil, gv_0, gv_1, gv_2, gv_3, pv_0, pv_1, va_rf_s, Nat.reduceDiv, Nat.reduceMod, Nat.reduceAdd, Nat.reduceMul, Int.reduceToNat, true_and, and_true, and_self, cP_eq, cP_ne, cP_lt, cP_ge, cP_gt, cP_le, eL_i, eL_l, eL_r, eL_n, Option.toList_none, Option.toList_some, List.nil_append, List.cons_append, kkI, llI, nnI, rrI, jjI, kkJ, llJ, nnJ, rrJ, iiJ, zIIs, zJJs, nEF, nET, and_false, false_and, jmin, jmax, catS_n, catS_i, catS_r, catS_l, Nat.reduceLeDiff, j1eq1, n21, jt0, jt1, Bool.false_eq_true, Classical.not_not, true_or, or_true, false_or, or_false, true_imp_iff, false_imp_iff, not_true_eq_false, not_false_eq_true, jif0, jif1, jifb, ltT, ltF, leT, leF, eqT, eqF, jlt, jle, jeq, jlt0, jle0, jeq0, jge0, jgt0, jinB, jnat, clt, cle, ceq, cgt, cge, lI_add, lI_sub, lI_mul, jadd, jsub, jmul, jneg, jtol, b010, b011, pv_2t, Int.toNat_natCast, Option.some.injEq, exists_eq_left', if_true, if_false]
    exact no fun z => ca z.1
theorem t_M_meets {d : Nat} {h : Hp} {m nm : Nat} {k s : Int} {F : Nat → Int} {V : Nat → RowVal} {Q : Nat → Option Value → Hp → Prop} (hm : mO h m) (n : mnS h m nm F V) (hk : i32 k) (hs : i32 s)
    (q0 : ¬ ((0 ≤ k ∧ k < nm) ∧ mtP (V k.toNat) s) → ∀ g, mt0 h g m 0 → Q 0 (some (.long (lI (-1)))) g)
    (q1 : (0 ≤ k ∧ k < nm) ∧ mtP (V k.toNat) s → ∀ g, fi (fun q => q = m ∨ q = m + 35) h g → (∀ i, i ≠ 0 → zI g m i = zI h m i) → zI g m 0 = iI 0 → Q 0 (some (.long (lI (meV (V k.toNat) s.toNat s.toNat)))) g) : PR (d + 2) m_M_meets [.ref m, .int (iI k), .int (iI s)] h Q := by
  have M := hm.k
  have n2 := n.2.1
  have s1 := hs.1
  have s2 := hs.2
  show PW (d + 2) 267 0 [some (.ref m), some (.int (iI k)), some (.int (iI s)), none, none] [] h Q
  refine vs_ok 5 ?_
  rw [show ((gRes 267).drop 0).take 5 = [.aload 0, .iconst 0, .putfield 12000, .aload 0, .iload 1] from rfl]
  simp (disch := omega) only [vs_iconst, vs_putfield, vs_aload0, vs_iload1, vs_nil, gv_0, gv_1, gv_2, gv_3, pv_0, pv_1, va_rf_s, Nat.reduceDiv, Nat.reduceMod, Nat.reduceAdd, Nat.reduceMul, Int.reduceToNat, true_and, and_true, and_self, cP_eq, cP_ne, cP_lt, cP_ge, cP_gt, cP_le, eL_i, eL_l, eL_r, eL_n, Option.toList_none, Option.toList_some, List.nil_append, List.cons_append, kkI, llI, nnI, rrI, jjI, kkJ, llJ, nnJ, rrJ, iiJ, zIIs, zJJs, nEF, nET, and_false, false_and, jmin, jmax, catS_n, catS_i, catS_r, catS_l, Nat.reduceLeDiff, j1eq1, n21, jt0, jt1, Bool.false_eq_true, Classical.not_not, true_or, or_true, false_or, or_false, true_imp_iff, false_imp_iff, not_true_eq_false, not_false_eq_true, jif0, jif1, jifb, ltT, ltF, leT, leF, eqT, eqF, jlt, jle, jeq, jlt0, jle0, jeq0, jge0, jgt0, jinB, jnat, clt, cle, ceq, cgt, cge, lI_add, lI_sub, lI_mul, jadd, jsub, jmul, jneg, jtol, b010, b011, pv_2t, Int.toNat_natCast, Option.some.injEq, exists_eq_left', if_true, if_false, M]
  have z := mt0_s (h := h) (m := m) 0
  have hg := hm.fi z.1
  have ng := n.fi z.1 (by omega) (by omega) (by omega) (by omega)
  generalize zsI h m 0 (iI 0) = g at *
  have M1 := hg.k
  have no : ¬ ((0 ≤ k ∧ k < nm) ∧ mtP (V k.toNat) s) → PW (d + 2) 267 24 [some (.ref m), some (.int (iI k)), some (.int (iI s)), none, none] [] g Q := fun c => by
    refine vs_ok 2 ?_
    rw [show ((gRes 267).drop 24).take 2 = [.jsr_w (-1), .lreturn] from rfl]
    simp (disch := omega) only [vs_jsr_w, vs_lreturn, vs_nil, gv_0, gv_1, gv_2, gv_3, pv_0, pv_1, va_rf_s, Nat.reduceDiv, Nat.reduceMod, Nat.reduceAdd, Nat.reduceMul, Int.reduceToNat, true_and, and_true, and_self, cP_eq, cP_ne, cP_lt, cP_ge, cP_gt, cP_le, eL_i, eL_l, eL_r, eL_n, Option.toList_none, Option.toList_some, List.nil_append, List.cons_append, kkI, llI, nnI, rrI, jjI, kkJ, llJ, nnJ, rrJ, iiJ, zIIs, zJJs, nEF, nET, and_false, false_and, jmin, jmax, catS_n, catS_i, catS_r, catS_l, Nat.reduceLeDiff, j1eq1, n21, jt0, jt1, Bool.false_eq_true, Classical.not_not, true_or, or_true, false_or, or_false, true_imp_iff, false_imp_iff, not_true_eq_false, not_false_eq_true, jif0, jif1, jifb, ltT, ltF, leT, leF, eqT, eqF, jlt, jle, jeq, jlt0, jle0, jeq0, jge0, jgt0, jinB, jnat, clt, cle, ceq, cgt, cge, lI_add, lI_sub, lI_mul, jadd, jsub, jmul, jneg, jtol, b010, b011, pv_2t, Int.toNat_natCast, Option.some.injEq, exists_eq_left', if_true, if_false, show gRc 267 = 3 from rfl]
    exact q0 c g z
  refine PW.iv rfl rfl rfl M1.1 M1.2 (le_b rfl) (le_b rfl) ?_
  refine t_M_is hg ng.1 n2 hk ⟨rfl, ⟨rfl, rfl⟩, ?_⟩
  by_cases ck : 0 ≤ k ∧ k < nm
  · rw [if_pos ck]
    refine vs_ok 4 ?_
    rw [show ((gRes 267).drop 6).take 4 = [.ifCond .eq 24, .iload 2, .iconst 0, .iconst 200] from rfl]
    simp (disch := omega) only [vs_iconst, vs_ifCond, vs_iload2, vs_nil, gv_0, gv_1, gv_2, gv_3, pv_0, pv_1, va_rf_s, Nat.reduceDiv, Nat.reduceMod, Nat.reduceAdd, Nat.reduceMul, Int.reduceToNat, true_and, and_true, and_self, cP_eq, cP_ne, cP_lt, cP_ge, cP_gt, cP_le, eL_i, eL_l, eL_r, eL_n, Option.toList_none, Option.toList_some, List.nil_append, List.cons_append, kkI, llI, nnI, rrI, jjI, kkJ, llJ, nnJ, rrJ, iiJ, zIIs, zJJs, nEF, nET, and_false, false_and, jmin, jmax, catS_n, catS_i, catS_r, catS_l, Nat.reduceLeDiff, j1eq1, n21, jt0, jt1, Bool.false_eq_true, Classical.not_not, true_or, or_true, false_or, or_false, true_imp_iff, false_imp_iff, not_true_eq_false, not_false_eq_true, jif0, jif1, jifb, ltT, ltF, leT, leF, eqT, eqF, jlt, jle, jeq, jlt0, jle0, jeq0, jge0, jgt0, jinB, jnat, clt, cle, ceq, cgt, cge, lI_add, lI_sub, lI_mul, jadd, jsub, jmul, jneg, jtol, b010, b011, pv_2t, Int.toNat_natCast, Option.some.injEq, exists_eq_left', if_true, if_false]
    refine PW.ss (r := []) rfl (le_b rfl) rfl rfl (le_b rfl) (le_b rfl) ?_
    refine t_M_isIn hs (by constructor <;> omega) (by constructor <;> omega) ⟨rfl, ⟨rfl, rfl⟩, ?_⟩
    by_cases cs : 0 ≤ s ∧ s ≤ 200
    · rw [if_pos cs]
      have q1 := fun y => q1 ⟨ck, y⟩
      obtain ⟨k, rfl⟩ : ∃ j : Nat, k = j := ⟨k.toNat, by omega⟩
      obtain ⟨s, rfl⟩ : ∃ j : Nat, s = j := ⟨s.toNat, by omega⟩
      simp only [Int.toNat_natCast] at q1 no
      have xk := ng.2.2 k (by omega)
      have vk := xk.2.1
      have gk := xk.2.2
      have v2 := vk.2
      have A := hg.pool
      have A2 := hg.alls
      have A3 := hg.met
      have mb := meV_b gk
      have g1 := gk.1
      have g6 := gk.2.2.2.2.2
      have gn := gk.2.1
      have gw := gk.w1
      generalize V k = v at *
      refine vs_ok 3 ?_
      rw [show ((gRes 267).drop 11).take 3 = [.ifCond .eq 24, .aload 0, .iload 1] from rfl]
      simp (disch := omega) only [vs_ifCond, vs_aload0, vs_iload1, vs_nil, gv_0, gv_1, gv_2, gv_3, pv_0, pv_1, va_rf_s, Nat.reduceDiv, Nat.reduceMod, Nat.reduceAdd, Nat.reduceMul, Int.reduceToNat, true_and, and_true, and_self, cP_eq, cP_ne, cP_lt, cP_ge, cP_gt, cP_le, eL_i, eL_l, eL_r, eL_n, Option.toList_none, Option.toList_some, List.nil_append, List.cons_append, kkI, llI, nnI, rrI, jjI, kkJ, llJ, nnJ, rrJ, iiJ, zIIs, zJJs, nEF, nET, and_false, false_and, jmin, jmax, catS_n, catS_i, catS_r, catS_l, Nat.reduceLeDiff, j1eq1, n21, jt0, jt1, Bool.false_eq_true, Classical.not_not, true_or, or_true, false_or, or_false, true_imp_iff, false_imp_iff, not_true_eq_false, not_false_eq_true, jif0, jif1, jifb, ltT, ltF, leT, leF, eqT, eqF, jlt, jle, jeq, jlt0, jle0, jeq0, jge0, jgt0, jinB, jnat, clt, cle, ceq, cgt, cge, lI_add, lI_sub, lI_mul, jadd, jsub, jmul, jneg, jtol, b010, b011, pv_2t, Int.toNat_natCast, Option.some.injEq, exists_eq_left', if_true, if_false]
      refine PW.iv rfl rfl rfl M1.1 M1.2 (le_b rfl) (le_b rfl) ?_
      refine t_M_lowest hg (by omega) vk gk ⟨rfl, ⟨rfl, rfl⟩, ?_⟩
      by_cases c1 : 1 ≤ v.1
      · by_cases c2 : v.2.2.1 ≤ 1000
        · have q1 := q1 ⟨cs, c1, c2⟩
          refine vs_ok 9 ?_
          rw [show ((gRes 267).drop 15).take 9 = [.iconst 1, .if_icmp .lt 24, .aload 0, .getfield 12062, .iload 1, .laload, .jsr_w 1000, .lcmp, .ifCond .le 26] from rfl]
          simp (disch := omega) only [vs_lcmp, vs_iconst, vs_jsr_w, vs_if_icmp, vs_ifCond, vs_getfield, vs_laload, vs_aload0, vs_iload1, vs_nil, gv_0, gv_1, gv_2, gv_3, pv_0, pv_1, va_rf_s, Nat.reduceDiv, Nat.reduceMod, Nat.reduceAdd, Nat.reduceMul, Int.reduceToNat, true_and, and_true, and_self, cP_eq, cP_ne, cP_lt, cP_ge, cP_gt, cP_le, eL_i, eL_l, eL_r, eL_n, Option.toList_none, Option.toList_some, List.nil_append, List.cons_append, kkI, llI, nnI, rrI, jjI, kkJ, llJ, nnJ, rrJ, iiJ, zIIs, zJJs, nEF, nET, and_false, false_and, jmin, jmax, catS_n, catS_i, catS_r, catS_l, Nat.reduceLeDiff, j1eq1, n21, jt0, jt1, Bool.false_eq_true, Classical.not_not, true_or, or_true, false_or, or_false, true_imp_iff, false_imp_iff, not_true_eq_false, not_false_eq_true, jif0, jif1, jifb, ltT, ltF, leT, leF, eqT, eqF, jlt, jle, jeq, jlt0, jle0, jeq0, jge0, jgt0, jinB, jnat, clt, cle, ceq, cgt, cge, lI_add, lI_sub, lI_mul, jadd, jsub, jmul, jneg, jtol, b010, b011, pv_2t, Int.toNat_natCast, Option.some.injEq, exists_eq_left', if_true, if_false, M1, A2, v2]
          refine vs_ok 7 ?_
          rw [show ((gRes 267).drop 26).take 7 = [.aload 0, .getfield 12582, .iconst 0, .jsr_w 1000000000000000, .lastore, .iconst 1, .istore 3] from rfl]
          simp (disch := omega) only [vs_iconst, vs_jsr_w, vs_getfield, vs_lastore, vs_aload0, vs_istore3n, vs_istore3i, vs_istore3r, vs_istore3l, vs_nil, gv_0, gv_1, gv_2, gv_3, pv_0, pv_1, va_rf_s, Nat.reduceDiv, Nat.reduceMod, Nat.reduceAdd, Nat.reduceMul, Int.reduceToNat, true_and, and_true, and_self, cP_eq, cP_ne, cP_lt, cP_ge, cP_gt, cP_le, eL_i, eL_l, eL_r, eL_n, Option.toList_none, Option.toList_some, List.nil_append, List.cons_append, kkI, llI, nnI, rrI, jjI, kkJ, llJ, nnJ, rrJ, iiJ, zIIs, zJJs, nEF, nET, and_false, false_and, jmin, jmax, catS_n, catS_i, catS_r, catS_l, Nat.reduceLeDiff, j1eq1, n21, jt0, jt1, Bool.false_eq_true, Classical.not_not, true_or, or_true, false_or, or_false, true_imp_iff, false_imp_iff, not_true_eq_false, not_false_eq_true, jif0, jif1, jifb, ltT, ltF, leT, leF, eqT, eqF, jlt, jle, jeq, jlt0, jle0, jeq0, jge0, jgt0, jinB, jnat, clt, cle, ceq, cgt, cge, lI_add, lI_sub, lI_mul, jadd, jsub, jmul, jneg, jtol, b010, b011, pv_2t, Int.toNat_natCast, Option.some.injEq, exists_eq_left', if_true, if_false, M1, A3]
          have f0 : fi (fun q => q = m + 35) g (zsJ g (m + 35) 0 (lI 1000000000000000)) := fi_J rfl
          have J0 : ∀ i, i ≤ 0 → zJ (zsJ g (m + 35) 0 (lI 1000000000000000)) (m + 35) i = lI (meV v 0 i) := fun i hi => by
            have : i = 0 := by omega
            subst this
            rw [zJ_sJ, if_pos ⟨rfl, rfl⟩]
            rfl
          generalize zsJ g (m + 35) 0 (lI 1000000000000000) = g0 at *
          have lp : ∀ (j r : Nat) (o4 : Option Value) (g' : Hp), j + r = s → fi (fun q => q = m + 35) g g' → (∀ i, i ≤ r → zJ g' (m + 35) i = lI (meV v r i)) → PW (d + 2) 267 33 [some (.ref m), some (.int (iI k)), some (.int (iI s)), some (.int (iI ((r + 1 : Nat) : Int))), o4] [] g' Q := by
            intro j
            induction j with
            | zero =>
              intro r o4 g' hr f hJ
              have er : r = s := by omega
              subst er
              have hg' := hg.fi f
              have M' := hg'.k
              have A3' := hg'.met
              have vJ := hJ r (by omega)
              refine vs_ok 3 ?_
              rw [show ((gRes 267).drop 33).take 3 = [.iload 3, .iload 2, .if_icmp .gt 79] from rfl]
              simp (disch := omega) only [vs_if_icmp, vs_iload2, vs_iload3, vs_nil, gv_0, gv_1, gv_2, gv_3, pv_0, pv_1, va_rf_s, Nat.reduceDiv, Nat.reduceMod, Nat.reduceAdd, Nat.reduceMul, Int.reduceToNat, true_and, and_true, and_self, cP_eq, cP_ne, cP_lt, cP_ge, cP_gt, cP_le, eL_i, eL_l, eL_r, eL_n, Option.toList_none, Option.toList_some, List.nil_append, List.cons_append, kkI, llI, nnI, rrI, jjI, kkJ, llJ, nnJ, rrJ, iiJ, zIIs, zJJs, nEF, nET, and_false, false_and, jmin, jmax, catS_n, catS_i, catS_r, catS_l, Nat.reduceLeDiff, j1eq1, n21, jt0, jt1, Bool.false_eq_true, Classical.not_not, true_or, or_true, false_or, or_false, true_imp_iff, false_imp_iff, not_true_eq_false, not_false_eq_true, jif0, jif1, jifb, ltT, ltF, leT, leF, eqT, eqF, jlt, jle, jeq, jlt0, jle0, jeq0, jge0, jgt0, jinB, jnat, clt, cle, ceq, cgt, cge, lI_add, lI_sub, lI_mul, jadd, jsub, jmul, jneg, jtol, b010, b011, pv_2t, Int.toNat_natCast, Option.some.injEq, exists_eq_left', if_true, if_false]
              refine vs_ok 5 ?_
              rw [show ((gRes 267).drop 79).take 5 = [.aload 0, .getfield 12582, .iload 2, .laload, .lreturn] from rfl]
              simp (disch := omega) only [vs_getfield, vs_laload, vs_lreturn, vs_aload0, vs_iload2, vs_nil, gv_0, gv_1, gv_2, gv_3, pv_0, pv_1, va_rf_s, Nat.reduceDiv, Nat.reduceMod, Nat.reduceAdd, Nat.reduceMul, Int.reduceToNat, true_and, and_true, and_self, cP_eq, cP_ne, cP_lt, cP_ge, cP_gt, cP_le, eL_i, eL_l, eL_r, eL_n, Option.toList_none, Option.toList_some, List.nil_append, List.cons_append, kkI, llI, nnI, rrI, jjI, kkJ, llJ, nnJ, rrJ, iiJ, zIIs, zJJs, nEF, nET, and_false, false_and, jmin, jmax, catS_n, catS_i, catS_r, catS_l, Nat.reduceLeDiff, j1eq1, n21, jt0, jt1, Bool.false_eq_true, Classical.not_not, true_or, or_true, false_or, or_false, true_imp_iff, false_imp_iff, not_true_eq_false, not_false_eq_true, jif0, jif1, jifb, ltT, ltF, leT, leF, eqT, eqF, jlt, jle, jeq, jlt0, jle0, jeq0, jge0, jgt0, jinB, jnat, clt, cle, ceq, cgt, cge, lI_add, lI_sub, lI_mul, jadd, jsub, jmul, jneg, jtol, b010, b011, pv_2t, Int.toNat_natCast, Option.some.injEq, exists_eq_left', if_true, if_false, M', A3', vJ, show gRc 267 = 3 from rfl]
              exact q1 g' ((z.1.wk fun q y => Or.inl y).tr (f.wk fun q y => Or.inr y)) (fun i hi => by rw [f.1.2.2.2.2.2.1 m (by omega)]; exact z.2.1 i hi) (by rw [f.1.2.2.2.2.2.1 m (by omega)]; exact z.2.2)
            | succ j ih =>
              intro r o4 g' hr f hJ
              have mb' := mb r
              have sb : ∀ q, 0 ≤ meS (meV v r) (fun i => v.2.2.2 (i : Nat)) v.2.2.1 (r + 1) q ∧ meS (meV v r) (fun i => v.2.2.2 (i : Nat)) v.2.2.1 (r + 1) q ≤ 1000000000000000 := fun q => by
                have a := meS_b (tot := v.2.2.1) (by omega) (show (0 : Int) ≤ 1000000000000000 by omega) mb' (W := fun i => v.2.2.2 (i : Nat)) (fun i => gn _) (r + 1) q
                refine ⟨a.1, ?_⟩
                have h3 := Int.le_trans (suW_pS gn q) (pS_le gk _)
                have h4 := Int.mul_le_mul_of_nonneg_left h3 (show (0 : Int) ≤ 1000000000000000 by omega)
                exact Int.le_of_mul_le_mul_right (Int.le_trans a.2 h4) (by omega)
              have l2 : ∀ (j2 u : Nat) (g2 : Hp), j2 + u = r + 1 → fi (fun q => q = m + 35) g g2 → (∀ i, i ≤ r → zJ g2 (m + 35) i = lI (meV v r i)) → zJ g2 (m + 35) (r + 1) = lI (meS (meV v r) (fun i => v.2.2.2 (i : Nat)) v.2.2.1 (r + 1) u) → PW (d + 2) 267 43 [some (.ref m), some (.int (iI k)), some (.int (iI s)), some (.int (iI ((r + 1 : Nat) : Int))), some (.int (iI ((u + 1 : Nat) : Int)))] [] g2 Q := by
                intro j2
                induction j2 with
                | zero =>
                  intro u g2 hu f2 hJ2 hS
                  have eu : u = r + 1 := by omega
                  subst eu
                  refine vs_ok 3 ?_
                  rw [show ((gRes 267).drop 43).take 3 = [.iload 4, .iload 3, .if_icmp .gt 77] from rfl]
                  simp (disch := omega) only [vs_if_icmp, vs_iload3, vs_iload4, vs_nil, gv_0, gv_1, gv_2, gv_3, pv_0, pv_1, va_rf_s, Nat.reduceDiv, Nat.reduceMod, Nat.reduceAdd, Nat.reduceMul, Int.reduceToNat, true_and, and_true, and_self, cP_eq, cP_ne, cP_lt, cP_ge, cP_gt, cP_le, eL_i, eL_l, eL_r, eL_n, Option.toList_none, Option.toList_some, List.nil_append, List.cons_append, kkI, llI, nnI, rrI, jjI, kkJ, llJ, nnJ, rrJ, iiJ, zIIs, zJJs, nEF, nET, and_false, false_and, jmin, jmax, catS_n, catS_i, catS_r, catS_l, Nat.reduceLeDiff, j1eq1, n21, jt0, jt1, Bool.false_eq_true, Classical.not_not, true_or, or_true, false_or, or_false, true_imp_iff, false_imp_iff, not_true_eq_false, not_false_eq_true, jif0, jif1, jifb, ltT, ltF, leT, leF, eqT, eqF, jlt, jle, jeq, jlt0, jle0, jeq0, jge0, jgt0, jinB, jnat, clt, cle, ceq, cgt, cge, lI_add, lI_sub, lI_mul, jadd, jsub, jmul, jneg, jtol, b010, b011, pv_2t, Int.toNat_natCast, Option.some.injEq, exists_eq_left', if_true, if_false]
                  refine vs_ok 2 ?_
                  rw [show ((gRes 267).drop 77).take 2 = [.iinc 3 1, .goto 33] from rfl]
                  simp (disch := omega) only [vs_goto, vs_iinc3n, vs_iinc3i, vs_iinc3r, vs_iinc3l, vs_nil, gv_0, gv_1, gv_2, gv_3, pv_0, pv_1, va_rf_s, Nat.reduceDiv, Nat.reduceMod, Nat.reduceAdd, Nat.reduceMul, Int.reduceToNat, true_and, and_true, and_self, cP_eq, cP_ne, cP_lt, cP_ge, cP_gt, cP_le, eL_i, eL_l, eL_r, eL_n, Option.toList_none, Option.toList_some, List.nil_append, List.cons_append, kkI, llI, nnI, rrI, jjI, kkJ, llJ, nnJ, rrJ, iiJ, zIIs, zJJs, nEF, nET, and_false, false_and, jmin, jmax, catS_n, catS_i, catS_r, catS_l, Nat.reduceLeDiff, j1eq1, n21, jt0, jt1, Bool.false_eq_true, Classical.not_not, true_or, or_true, false_or, or_false, true_imp_iff, false_imp_iff, not_true_eq_false, not_false_eq_true, jif0, jif1, jifb, ltT, ltF, leT, leF, eqT, eqF, jlt, jle, jeq, jlt0, jle0, jeq0, jge0, jgt0, jinB, jnat, clt, cle, ceq, cgt, cge, lI_add, lI_sub, lI_mul, jadd, jsub, jmul, jneg, jtol, b010, b011, pv_2t, Int.toNat_natCast, Option.some.injEq, exists_eq_left', if_true, if_false]
                  refine ih (r + 1) _ g2 (by omega) f2 fun i hi => ?_
                  show _ = lI (if i = r + 1 then _ else meV v r i)
                  by_cases y : i = r + 1
                  · rw [if_pos y, y]
                    exact hS
                  · rw [if_neg y]
                    exact hJ2 i (by omega)
                | succ j2 ih2 =>
                  intro u g2 hu f2 hJ2 hS
                  have hg' := hg.fi f2
                  have M' := hg'.k
                  have A3' := hg'.met
                  have A' := hg'.pool
                  have A2' := hg'.alls
                  have v2' : zJ g2 (m + 3) k = lI v.2.2.1 := by rw [f2.1.2.2.2.2.2.2.1 _ (by omega)]; exact v2
                  have e1 : (401 : Int) * (k : Int) + 200 + ((u + 1 : Nat) : Int) = ((401 * k + (200 + (u + 1)) : Nat) : Int) := by omega
                  have e2 : (((r + 1 : Nat) : Int) - ((u + 1 : Nat) : Int)) = ((r - u : Nat) : Int) := by omega
                  have x1 : zJ g2 (m + 2) (401 * k + (200 + (u + 1))) = lI (v.2.2.2 ((u + 1 : Nat) : Int)) := by
                    rw [f2.1.2.2.2.2.2.2.1 _ (by omega), vk.1 (200 + (u + 1)) (by omega)]
                    exact congrArg (fun z => lI (v.2.2.2 z)) (by omega)
                  have x2 := hJ2 (r - u) (by omega)
                  have su := sb u
                  have mq := mb' (r - u)
                  have wq := gn ((u + 1 : Nat) : Int)
                  have wq2 := gw ((u + 1 : Nat) : Int)
                  have p0 := Int.mul_nonneg mq.1 wq
                  have p1 := Int.mul_le_mul mq.2 (show v.2.2.2 ((u + 1 : Nat) : Int) ≤ 1000 by omega) wq (by omega)
                  have es : meS (meV v r) (fun i => v.2.2.2 (i : Nat)) v.2.2.1 (r + 1) (u + 1) = meS (meV v r) (fun i => v.2.2.2 (i : Nat)) v.2.2.1 (r + 1) u + meV v r (r - u) * v.2.2.2 ((u + 1 : Nat) : Int) / v.2.2.1 := by
                    show _ + meV v r (r + 1 - (u + 1)) * _ / _ = _
                    rw [show r + 1 - (u + 1) = r - u by omega]
                  have nx := fun gg a b c => ih2 (u + 1) gg (by omega) a b c
                  rw [es] at nx
                  generalize meV v r (r - u) = MM at *
                  generalize meS (meV v r) (fun i => v.2.2.2 (i : Nat)) v.2.2.1 (r + 1) u = S0 at *
                  generalize hP : MM * v.2.2.2 ((u + 1 : Nat) : Int) = P at *
                  refine vs_ok 3 ?_
                  rw [show ((gRes 267).drop 43).take 3 = [.iload 4, .iload 3, .if_icmp .gt 77] from rfl]
                  simp (disch := omega) only [vs_if_icmp, vs_iload3, vs_iload4, vs_nil, gv_0, gv_1, gv_2, gv_3, pv_0, pv_1, va_rf_s, Nat.reduceDiv, Nat.reduceMod, Nat.reduceAdd, Nat.reduceMul, Int.reduceToNat, true_and, and_true, and_self, cP_eq, cP_ne, cP_lt, cP_ge, cP_gt, cP_le, eL_i, eL_l, eL_r, eL_n, Option.toList_none, Option.toList_some, List.nil_append, List.cons_append, kkI, llI, nnI, rrI, jjI, kkJ, llJ, nnJ, rrJ, iiJ, zIIs, zJJs, nEF, nET, and_false, false_and, jmin, jmax, catS_n, catS_i, catS_r, catS_l, Nat.reduceLeDiff, j1eq1, n21, jt0, jt1, Bool.false_eq_true, Classical.not_not, true_or, or_true, false_or, or_false, true_imp_iff, false_imp_iff, not_true_eq_false, not_false_eq_true, jif0, jif1, jifb, ltT, ltF, leT, leF, eqT, eqF, jlt, jle, jeq, jlt0, jle0, jeq0, jge0, jgt0, jinB, jnat, clt, cle, ceq, cgt, cge, lI_add, lI_sub, lI_mul, jadd, jsub, jmul, jneg, jtol, b010, b011, pv_2t, Int.toNat_natCast, Option.some.injEq, exists_eq_left', if_true, if_false]
                  refine vs_ok 31 ?_
                  rw [show ((gRes 267).drop 46).take 31 = [.aload 0, .getfield 12582, .iload 3, .dup2, .laload, .aload 0, .getfield 12582, .iload 3, .iload 4, .isub, .laload, .aload 0, .getfield 12052, .iconst 401, .iload 1, .imul, .iconst 200, .iadd, .iload 4, .iadd, .laload, .lmul, .aload 0, .getfield 12062, .iload 1, .laload, .ldiv, .ladd, .lastore, .iinc 4 1, .goto 43] from rfl]
                  simp (disch := omega) only [vs_iadd, vs_isub, vs_imul, vs_ladd, vs_lmul, vs_ldiv, vs_iconst, vs_goto, vs_getfield, vs_laload, vs_lastore, vs_dup2, vs_aload0, vs_iload1, vs_iload3, vs_iload4, vs_iinc4n, vs_iinc4i, vs_iinc4r, vs_iinc4l, vs_nil, gv_0, gv_1, gv_2, gv_3, pv_0, pv_1, va_rf_s, Nat.reduceDiv, Nat.reduceMod, Nat.reduceAdd, Nat.reduceMul, Int.reduceToNat, true_and, and_true, and_self, cP_eq, cP_ne, cP_lt, cP_ge, cP_gt, cP_le, eL_i, eL_l, eL_r, eL_n, Option.toList_none, Option.toList_some, List.nil_append, List.cons_append, kkI, llI, nnI, rrI, jjI, kkJ, llJ, nnJ, rrJ, iiJ, zIIs, zJJs, nEF, nET, and_false, false_and, jmin, jmax, catS_n, catS_i, catS_r, catS_l, Nat.reduceLeDiff, j1eq1, n21, jt0, jt1, Bool.false_eq_true, Classical.not_not, true_or, or_true, false_or, or_false, true_imp_iff, false_imp_iff, not_true_eq_false, not_false_eq_true, jif0, jif1, jifb, ltT, ltF, leT, leF, eqT, eqF, jlt, jle, jeq, jlt0, jle0, jeq0, jge0, jgt0, jinB, jnat, clt, cle, ceq, cgt, cge, lI_add, lI_sub, lI_mul, jadd, jsub, jmul, jneg, jtol, b010, b011, pv_2t, Int.toNat_natCast, Option.some.injEq, exists_eq_left', if_true, if_false, M', A3', A', A2', v2', e1, e2, x1, x2, hS, hP, jldiv, jl0]
                  refine nx _ (f2.J rfl) (fun i hi => ?_) ?_
                  · rw [zJ_sJ, if_neg (by omega)]
                    exact hJ2 i hi
                  · rw [zJ_sJ, if_pos ⟨rfl, rfl⟩]
              have hg' := hg.fi f
              have M' := hg'.k
              have A3' := hg'.met
              refine vs_ok 3 ?_
              rw [show ((gRes 267).drop 33).take 3 = [.iload 3, .iload 2, .if_icmp .gt 79] from rfl]
              simp (disch := omega) only [vs_if_icmp, vs_iload2, vs_iload3, vs_nil, gv_0, gv_1, gv_2, gv_3, pv_0, pv_1, va_rf_s, Nat.reduceDiv, Nat.reduceMod, Nat.reduceAdd, Nat.reduceMul, Int.reduceToNat, true_and, and_true, and_self, cP_eq, cP_ne, cP_lt, cP_ge, cP_gt, cP_le, eL_i, eL_l, eL_r, eL_n, Option.toList_none, Option.toList_some, List.nil_append, List.cons_append, kkI, llI, nnI, rrI, jjI, kkJ, llJ, nnJ, rrJ, iiJ, zIIs, zJJs, nEF, nET, and_false, false_and, jmin, jmax, catS_n, catS_i, catS_r, catS_l, Nat.reduceLeDiff, j1eq1, n21, jt0, jt1, Bool.false_eq_true, Classical.not_not, true_or, or_true, false_or, or_false, true_imp_iff, false_imp_iff, not_true_eq_false, not_false_eq_true, jif0, jif1, jifb, ltT, ltF, leT, leF, eqT, eqF, jlt, jle, jeq, jlt0, jle0, jeq0, jge0, jgt0, jinB, jnat, clt, cle, ceq, cgt, cge, lI_add, lI_sub, lI_mul, jadd, jsub, jmul, jneg, jtol, b010, b011, pv_2t, Int.toNat_natCast, Option.some.injEq, exists_eq_left', if_true, if_false]
              refine vs_ok 7 ?_
              rw [show ((gRes 267).drop 36).take 7 = [.aload 0, .getfield 12582, .iload 3, .jsr_w 0, .lastore, .iconst 1, .istore 4] from rfl]
              simp (disch := omega) only [vs_iconst, vs_jsr_w, vs_getfield, vs_lastore, vs_aload0, vs_iload3, vs_istore4n, vs_istore4i, vs_istore4r, vs_istore4l, vs_nil, gv_0, gv_1, gv_2, gv_3, pv_0, pv_1, va_rf_s, Nat.reduceDiv, Nat.reduceMod, Nat.reduceAdd, Nat.reduceMul, Int.reduceToNat, true_and, and_true, and_self, cP_eq, cP_ne, cP_lt, cP_ge, cP_gt, cP_le, eL_i, eL_l, eL_r, eL_n, Option.toList_none, Option.toList_some, List.nil_append, List.cons_append, kkI, llI, nnI, rrI, jjI, kkJ, llJ, nnJ, rrJ, iiJ, zIIs, zJJs, nEF, nET, and_false, false_and, jmin, jmax, catS_n, catS_i, catS_r, catS_l, Nat.reduceLeDiff, j1eq1, n21, jt0, jt1, Bool.false_eq_true, Classical.not_not, true_or, or_true, false_or, or_false, true_imp_iff, false_imp_iff, not_true_eq_false, not_false_eq_true, jif0, jif1, jifb, ltT, ltF, leT, leF, eqT, eqF, jlt, jle, jeq, jlt0, jle0, jeq0, jge0, jgt0, jinB, jnat, clt, cle, ceq, cgt, cge, lI_add, lI_sub, lI_mul, jadd, jsub, jmul, jneg, jtol, b010, b011, pv_2t, Int.toNat_natCast, Option.some.injEq, exists_eq_left', if_true, if_false, M', A3']
              refine l2 (r + 1) 0 _ (by omega) (f.J rfl) (fun i hi => ?_) ?_
              · rw [zJ_sJ, if_neg (by omega)]
                exact hJ i hi
              · rw [zJ_sJ, if_pos ⟨rfl, rfl⟩]
                rfl
          exact lp s 0 _ g0 (by omega) f0 J0
        · refine vs_ok 9 ?_
          rw [show ((gRes 267).drop 15).take 9 = [.iconst 1, .if_icmp .lt 24, .aload 0, .getfield 12062, .iload 1, .laload, .jsr_w 1000, .lcmp, .ifCond .le 26] from rfl]
          simp (disch := omega) only [vs_lcmp, vs_iconst, vs_jsr_w, vs_if_icmp, vs_ifCond, vs_getfield, vs_laload, vs_aload0, vs_iload1, vs_nil, gv_0, gv_1, gv_2, gv_3, pv_0, pv_1, va_rf_s, Nat.reduceDiv, Nat.reduceMod, Nat.reduceAdd, Nat.reduceMul, Int.reduceToNat, true_and, and_true, and_self, cP_eq, cP_ne, cP_lt, cP_ge, cP_gt, cP_le, eL_i, eL_l, eL_r, eL_n, Option.toList_none, Option.toList_some, List.nil_append, List.cons_append, kkI, llI, nnI, rrI, jjI, kkJ, llJ, nnJ, rrJ, iiJ, zIIs, zJJs, nEF, nET, and_false, false_and, jmin, jmax, catS_n, catS_i, catS_r, catS_l, Nat.reduceLeDiff, j1eq1, n21, jt0, jt1, Bool.false_eq_true, Classical.not_not, true_or, or_true, false_or, or_false, true_imp_iff, false_imp_iff, not_true_eq_false, not_false_eq_true, jif0, jif1, jifb, ltT, ltF, leT, leF, eqT, eqF, jlt, jle, jeq, jlt0, jle0, jeq0, jge0, jgt0, jinB, jnat, clt, cle, ceq, cgt, cge, lI_add, lI_sub, lI_mul, jadd, jsub, jmul, jneg, jtol, b010, b011, pv_2t, Int.toNat_natCast, Option.some.injEq, exists_eq_left', if_true, if_false, M1, A2, v2]
          exact no fun y => c2 y.2.2.2
      · refine vs_ok 2 ?_
        rw [show ((gRes 267).drop 15).take 2 = [.iconst 1, .if_icmp .lt 24] from rfl]
        simp (disch := omega) only [vs_iconst, vs_if_icmp, vs_nil, gv_0, gv_1, gv_2, gv_3, pv_0, pv_1, va_rf_s, Nat.reduceDiv, Nat.reduceMod, Nat.reduceAdd, Nat.reduceMul, Int.reduceToNat, true_and, and_true, and_self, cP_eq, cP_ne, cP_lt, cP_ge, cP_gt, cP_le, eL_i, eL_l, eL_r, eL_n, Option.toList_none, Option.toList_some, List.nil_append, List.cons_append, kkI, llI, nnI, rrI, jjI, kkJ, llJ, nnJ, rrJ, iiJ, zIIs, zJJs, nEF, nET, and_false, false_and, jmin, jmax, catS_n, catS_i, catS_r, catS_l, Nat.reduceLeDiff, j1eq1, n21, jt0, jt1, Bool.false_eq_true, Classical.not_not, true_or, or_true, false_or, or_false, true_imp_iff, false_imp_iff, not_true_eq_false, not_false_eq_true, jif0, jif1, jifb, ltT, ltF, leT, leF, eqT, eqF, jlt, jle, jeq, jlt0, jle0, jeq0, jge0, jgt0, jinB, jnat, clt, cle, ceq, cgt, cge, lI_add, lI_sub, lI_mul, jadd, jsub, jmul, jneg, jtol, b010, b011, pv_2t, Int.toNat_natCast, Option.some.injEq, exists_eq_left', if_true, if_false]
        exact no fun y => c1 y.2.2.1
    · rw [if_neg cs]
      refine vs_ok 1 ?_
      rw [show ((gRes 267).drop 11).take 1 = [.ifCond .eq 24] from rfl]
      simp (disch := omega) only [vs_ifCond, vs_nil, gv_0, gv_1, gv_2, gv_3, pv_0, pv_1, va_rf_s, Nat.reduceDiv, Nat.reduceMod, Nat.reduceAdd, Nat.reduceMul, Int.reduceToNat, true_and, and_true, and_self, cP_eq, cP_ne, cP_lt, cP_ge, cP_gt, cP_le, eL_i, eL_l, eL_r, eL_n, Option.toList_none, Option.toList_some, List.nil_append, List.cons_append, kkI, llI, nnI, rrI, jjI, kkJ, llJ, nnJ, rrJ, iiJ, zIIs, zJJs, nEF, nET, and_false, false_and, jmin, jmax, catS_n, catS_i, catS_r, catS_l, Nat.reduceLeDiff, j1eq1, n21, jt0, jt1, Bool.false_eq_true, Classical.not_not, true_or, or_true, false_or, or_false, true_imp_iff, false_imp_iff, not_true_eq_false, not_false_eq_true, jif0, jif1, jifb, ltT, ltF, leT, leF, eqT, eqF, jlt, jle, jeq, jlt0, jle0, jeq0, jge0, jgt0, jinB, jnat, clt, cle, ceq, cgt, cge, lI_add, lI_sub, lI_mul, jadd, jsub, jmul, jneg, jtol, b010, b011, pv_2t, Int.toNat_natCast, Option.some.injEq, exists_eq_left', if_true, if_false]
      exact no fun y => cs y.2.1
  · rw [if_neg ck]
    refine vs_ok 1 ?_
    rw [show ((gRes 267).drop 6).take 1 = [.ifCond .eq 24] from rfl]
    simp (disch := omega) only [vs_ifCond, vs_nil, gv_0, gv_1, gv_2, gv_3, pv_0, pv_1, va_rf_s, Nat.reduceDiv, Nat.reduceMod, Nat.reduceAdd, Nat.reduceMul, Int.reduceToNat, true_and, and_true, and_self, cP_eq, cP_ne, cP_lt, cP_ge, cP_gt, cP_le, eL_i, eL_l, eL_r, eL_n, Option.toList_none, Option.toList_some, List.nil_append, List.cons_append, kkI, llI, nnI, rrI, jjI, kkJ, llJ, nnJ, rrJ, iiJ, zIIs, zJJs, nEF, nET, and_false, false_and, jmin, jmax, catS_n, catS_i, catS_r, catS_l, Nat.reduceLeDiff, j1eq1, n21, jt0, jt1, Bool.false_eq_true, Classical.not_not, true_or, or_true, false_or, or_false, true_imp_iff, false_imp_iff, not_true_eq_false, not_false_eq_true, jif0, jif1, jifb, ltT, ltF, leT, leF, eqT, eqF, jlt, jle, jeq, jlt0, jle0, jeq0, jge0, jgt0, jinB, jnat, clt, cle, ceq, cgt, cge, lI_add, lI_sub, lI_mul, jadd, jsub, jmul, jneg, jtol, b010, b011, pv_2t, Int.toNat_natCast, Option.some.injEq, exists_eq_left', if_true, if_false]
    exact no fun y => ck y.1
