/-! the Model: through, ring -/
theorem t_M_through {d : Nat} {h : Hp} {m nm s : Nat} {bt : Nat → Nat} {Q : Nat → Option Value → Hp → Prop} (hm : mO h m) (hn : zI h (m + 7) 0 = iI nm) (hb : nm ≤ 12) (n : mtN h m nm bt) (hp : btP bt nm) (hs : s < nm)
    (hq : ∀ f b g, fi (fun q => q = m + 15) h g → (∀ v, v < nm → zI g (m + 15) v = iI (f v : Nat)) → thP bt nm s f → bsP bt nm s f b → Q 0 (some (.int (iI (b : Nat)))) g) : PR d m_M_through [.ref m, .int (iI s)] h Q := by
  have M := hm.k
  have A := hm.nameMany
  show PW d 229 0 [some (.ref m), some (.int (iI s)), none, none, none, none] [] h Q
  have e12 : ∀ a b : Nat, (12 : Int) * (a : Int) + (b : Int) = ((12 * a + b : Nat) : Int) := fun a b => by omega
  -- what holds all along
  have dec : ∀ g, fi (fun q => q = m + 15) h g → (zK g m = 12 ∧ m < zN g) ∧ (zR g m 26 = some (m + 15) ∧ zK g (m + 15) = 14 ∧ m + 15 < zN g ∧ zL g (m + 15) = 12) ∧ (zR g m 12 = some (m + 8) ∧ zK g (m + 8) = 14 ∧ m + 8 < zN g ∧ zL g (m + 8) = 144) ∧ mtN g m nm bt := fun g f => ⟨(hm.fi f).k, (hm.fi f).far, (hm.fi f).net, n.fi f (by omega)⟩
  have ed : ∀ a b, a < nm → b < nm → (nsg bt a b = 1 ↔ (bt a).testBit b = true) := fun a b _ _ => by rw [ns1]
  -- the last loop
  have l4 : ∀ (f : Nat → Nat) (g : Hp), fi (fun q => q = m + 15) h g → (∀ v, v < nm → zI g (m + 15) v = iI (f v : Nat)) → thP bt nm s f → ∀ (j v b : Nat) (o5 : Option Value), j + v = nm → s < v → b ≤ 100 → (∀ u, s < u → u < v → (bt s).testBit u = true → b ≤ f u + 1) → (b < 100 → ∃ u, (s < u ∧ u < nm) ∧ (bt s).testBit u = true ∧ b = f u + 1) → PW d 229 82 [some (.ref m), some (.int (iI s)), some (.int (iI nm)), some (.int (iI b)), some (.int (iI v)), o5] [] g Q := by
    intro f g fg hI tp j
    obtain ⟨M1, A1, A8, n1⟩ := dec g fg
    induction j with
    | zero =>
      intro v b o5 hv hsv hb1 hb2 hb3
      have e : v = nm := by omega
      subst e
      refine vs_ok 3 ?_
      rw [show ((gRes 229).drop 82).take 3 = [.iload 4, .iload 2, .if_icmp .ge 112] from rfl]
      simp (disch := omega) only [vs_if_icmp, vs_iload2, vs_iload4, vs_nil, gv_0, gv_1, gv_2, gv_3, pv_0, pv_1, va_rf_s, Nat.reduceDiv, Nat.reduceMod, Nat.reduceAdd, Nat.reduceMul, Int.reduceToNat, true_and, and_true, and_self, cP_eq, cP_ne, cP_lt, cP_ge, cP_gt, cP_le, eL_i, eL_l, eL_r, eL_n, Option.toList_none, Option.toList_some, List.nil_append, List.cons_append, kkI, llI, nnI, rrI, jjI, kkJ, llJ, nnJ, rrJ, iiJ, zIIs, zJJs, nEF, nET, and_false, false_and, jmin, jmax, catS_n, catS_i, catS_r, catS_l, Nat.reduceLeDiff, j1eq1, n21, jt0, jt1, Bool.false_eq_true, Classical.not_not, true_or, or_true, false_or, or_false, true_imp_iff, false_imp_iff, not_true_eq_false, not_false_eq_true, jif0, jif1, jifb, ltT, ltF, leT, leF, eqT, eqF, jlt, jle, jeq, jlt0, jle0, jeq0, jge0, jgt0, jinB, jnat, clt, cle, ceq, cgt, cge, lI_add, lI_sub, lI_mul, jadd, jsub, jmul, jneg, jtol, b010, b011, pv_2t, Int.toNat_natCast, Option.some.injEq, exists_eq_left', if_true, if_false]
      refine vs_ok 2 ?_
      rw [show ((gRes 229).drop 112).take 2 = [.iload 3, .ireturn] from rfl]
      simp (disch := omega) only [vs_ireturn, vs_iload3, vs_nil, gv_0, gv_1, gv_2, gv_3, pv_0, pv_1, va_rf_s, Nat.reduceDiv, Nat.reduceMod, Nat.reduceAdd, Nat.reduceMul, Int.reduceToNat, true_and, and_true, and_self, cP_eq, cP_ne, cP_lt, cP_ge, cP_gt, cP_le, eL_i, eL_l, eL_r, eL_n, Option.toList_none, Option.toList_some, List.nil_append, List.cons_append, kkI, llI, nnI, rrI, jjI, kkJ, llJ, nnJ, rrJ, iiJ, zIIs, zJJs, nEF, nET, and_false, false_and, jmin, jmax, catS_n, catS_i, catS_r, catS_l, Nat.reduceLeDiff, j1eq1, n21, jt0, jt1, Bool.false_eq_true, Classical.not_not, true_or, or_true, false_or, or_false, true_imp_iff, false_imp_iff, not_true_eq_false, not_false_eq_true, jif0, jif1, jifb, ltT, ltF, leT, leF, eqT, eqF, jlt, jle, jeq, jlt0, jle0, jeq0, jge0, jgt0, jinB, jnat, clt, cle, ceq, cgt, cge, lI_add, lI_sub, lI_mul, jadd, jsub, jmul, jneg, jtol, b010, b011, pv_2t, Int.toNat_natCast, Option.some.injEq, exists_eq_left', if_true, if_false, show gRc 229 = 1 from rfl]
      exact hq f b g fg hI tp ⟨hb1, hb2, hb3⟩
    | succ j ih =>
      intro v b o5 hv hsv hb1 hb2 hb3
      have x := n1 s v hs (by omega)
      have y := hI v (by omega)
      have sb := nsg_b bt s v
      have fb := (tp.1 v (by omega)).1
      by_cases c1 : nsg bt s v = 1
      · have t := (ed s v hs (by omega)).mp c1
        by_cases c2 : f v + 1 < b
        · refine vs_ok 3 ?_
          rw [show ((gRes 229).drop 82).take 3 = [.iload 4, .iload 2, .if_icmp .ge 112] from rfl]
          simp (disch := omega) only [vs_if_icmp, vs_iload2, vs_iload4, vs_nil, gv_0, gv_1, gv_2, gv_3, pv_0, pv_1, va_rf_s, Nat.reduceDiv, Nat.reduceMod, Nat.reduceAdd, Nat.reduceMul, Int.reduceToNat, true_and, and_true, and_self, cP_eq, cP_ne, cP_lt, cP_ge, cP_gt, cP_le, eL_i, eL_l, eL_r, eL_n, Option.toList_none, Option.toList_some, List.nil_append, List.cons_append, kkI, llI, nnI, rrI, jjI, kkJ, llJ, nnJ, rrJ, iiJ, zIIs, zJJs, nEF, nET, and_false, false_and, jmin, jmax, catS_n, catS_i, catS_r, catS_l, Nat.reduceLeDiff, j1eq1, n21, jt0, jt1, Bool.false_eq_true, Classical.not_not, true_or, or_true, false_or, or_false, true_imp_iff, false_imp_iff, not_true_eq_false, not_false_eq_true, jif0, jif1, jifb, ltT, ltF, leT, leF, eqT, eqF, jlt, jle, jeq, jlt0, jle0, jeq0, jge0, jgt0, jinB, jnat, clt, cle, ceq, cgt, cge, lI_add, lI_sub, lI_mul, jadd, jsub, jmul, jneg, jtol, b010, b011, pv_2t, Int.toNat_natCast, Option.some.injEq, exists_eq_left', if_true, if_false]
          refine vs_ok 10 ?_
          rw [show ((gRes 229).drop 85).take 10 = [.aload 0, .getfield 12122, .iconst 12, .iload 1, .imul, .iload 4, .iadd, .iaload, .iconst 1, .if_icmp .ne 110] from rfl]
          simp (disch := omega) only [vs_iadd, vs_imul, vs_iconst, vs_if_icmp, vs_getfield, vs_iaload, vs_aload0, vs_iload1, vs_iload4, vs_nil, gv_0, gv_1, gv_2, gv_3, pv_0, pv_1, va_rf_s, Nat.reduceDiv, Nat.reduceMod, Nat.reduceAdd, Nat.reduceMul, Int.reduceToNat, true_and, and_true, and_self, cP_eq, cP_ne, cP_lt, cP_ge, cP_gt, cP_le, eL_i, eL_l, eL_r, eL_n, Option.toList_none, Option.toList_some, List.nil_append, List.cons_append, kkI, llI, nnI, rrI, jjI, kkJ, llJ, nnJ, rrJ, iiJ, zIIs, zJJs, nEF, nET, and_false, false_and, jmin, jmax, catS_n, catS_i, catS_r, catS_l, Nat.reduceLeDiff, j1eq1, n21, jt0, jt1, Bool.false_eq_true, Classical.not_not, true_or, or_true, false_or, or_false, true_imp_iff, false_imp_iff, not_true_eq_false, not_false_eq_true, jif0, jif1, jifb, ltT, ltF, leT, leF, eqT, eqF, jlt, jle, jeq, jlt0, jle0, jeq0, jge0, jgt0, jinB, jnat, clt, cle, ceq, cgt, cge, lI_add, lI_sub, lI_mul, jadd, jsub, jmul, jneg, jtol, b010, b011, pv_2t, Int.toNat_natCast, Option.some.injEq, exists_eq_left', if_true, if_false, M1, A8, e12, x, c1]
          refine vs_ok 8 ?_
          rw [show ((gRes 229).drop 95).take 8 = [.aload 0, .getfield 12262, .iload 4, .iaload, .iconst 1, .iadd, .iload 3, .if_icmp .ge 110] from rfl]
          simp (disch := omega) only [vs_iadd, vs_iconst, vs_if_icmp, vs_getfield, vs_iaload, vs_aload0, vs_iload3, vs_iload4, vs_nil, gv_0, gv_1, gv_2, gv_3, pv_0, pv_1, va_rf_s, Nat.reduceDiv, Nat.reduceMod, Nat.reduceAdd, Nat.reduceMul, Int.reduceToNat, true_and, and_true, and_self, cP_eq, cP_ne, cP_lt, cP_ge, cP_gt, cP_le, eL_i, eL_l, eL_r, eL_n, Option.toList_none, Option.toList_some, List.nil_append, List.cons_append, kkI, llI, nnI, rrI, jjI, kkJ, llJ, nnJ, rrJ, iiJ, zIIs, zJJs, nEF, nET, and_false, false_and, jmin, jmax, catS_n, catS_i, catS_r, catS_l, Nat.reduceLeDiff, j1eq1, n21, jt0, jt1, Bool.false_eq_true, Classical.not_not, true_or, or_true, false_or, or_false, true_imp_iff, false_imp_iff, not_true_eq_false, not_false_eq_true, jif0, jif1, jifb, ltT, ltF, leT, leF, eqT, eqF, jlt, jle, jeq, jlt0, jle0, jeq0, jge0, jgt0, jinB, jnat, clt, cle, ceq, cgt, cge, lI_add, lI_sub, lI_mul, jadd, jsub, jmul, jneg, jtol, b010, b011, pv_2t, Int.toNat_natCast, Option.some.injEq, exists_eq_left', if_true, if_false, M1, A1, y]
          refine vs_ok 7 ?_
          rw [show ((gRes 229).drop 103).take 7 = [.aload 0, .getfield 12262, .iload 4, .iaload, .iconst 1, .iadd, .istore 3] from rfl]
          simp (disch := omega) only [vs_iadd, vs_iconst, vs_getfield, vs_iaload, vs_aload0, vs_istore3n, vs_istore3i, vs_istore3r, vs_istore3l, vs_iload4, vs_nil, gv_0, gv_1, gv_2, gv_3, pv_0, pv_1, va_rf_s, Nat.reduceDiv, Nat.reduceMod, Nat.reduceAdd, Nat.reduceMul, Int.reduceToNat, true_and, and_true, and_self, cP_eq, cP_ne, cP_lt, cP_ge, cP_gt, cP_le, eL_i, eL_l, eL_r, eL_n, Option.toList_none, Option.toList_some, List.nil_append, List.cons_append, kkI, llI, nnI, rrI, jjI, kkJ, llJ, nnJ, rrJ, iiJ, zIIs, zJJs, nEF, nET, and_false, false_and, jmin, jmax, catS_n, catS_i, catS_r, catS_l, Nat.reduceLeDiff, j1eq1, n21, jt0, jt1, Bool.false_eq_true, Classical.not_not, true_or, or_true, false_or, or_false, true_imp_iff, false_imp_iff, not_true_eq_false, not_false_eq_true, jif0, jif1, jifb, ltT, ltF, leT, leF, eqT, eqF, jlt, jle, jeq, jlt0, jle0, jeq0, jge0, jgt0, jinB, jnat, clt, cle, ceq, cgt, cge, lI_add, lI_sub, lI_mul, jadd, jsub, jmul, jneg, jtol, b010, b011, pv_2t, Int.toNat_natCast, Option.some.injEq, exists_eq_left', if_true, if_false, M1, A1, y]
          refine vs_ok 2 ?_
          rw [show ((gRes 229).drop 110).take 2 = [.iinc 4 1, .goto 82] from rfl]
          simp (disch := omega) only [vs_goto, vs_iinc4n, vs_iinc4i, vs_iinc4r, vs_iinc4l, vs_nil, gv_0, gv_1, gv_2, gv_3, pv_0, pv_1, va_rf_s, Nat.reduceDiv, Nat.reduceMod, Nat.reduceAdd, Nat.reduceMul, Int.reduceToNat, true_and, and_true, and_self, cP_eq, cP_ne, cP_lt, cP_ge, cP_gt, cP_le, eL_i, eL_l, eL_r, eL_n, Option.toList_none, Option.toList_some, List.nil_append, List.cons_append, kkI, llI, nnI, rrI, jjI, kkJ, llJ, nnJ, rrJ, iiJ, zIIs, zJJs, nEF, nET, and_false, false_and, jmin, jmax, catS_n, catS_i, catS_r, catS_l, Nat.reduceLeDiff, j1eq1, n21, jt0, jt1, Bool.false_eq_true, Classical.not_not, true_or, or_true, false_or, or_false, true_imp_iff, false_imp_iff, not_true_eq_false, not_false_eq_true, jif0, jif1, jifb, ltT, ltF, leT, leF, eqT, eqF, jlt, jle, jeq, jlt0, jle0, jeq0, jge0, jgt0, jinB, jnat, clt, cle, ceq, cgt, cge, lI_add, lI_sub, lI_mul, jadd, jsub, jmul, jneg, jtol, b010, b011, pv_2t, Int.toNat_natCast, Option.some.injEq, exists_eq_left', if_true, if_false]
          exact ih (v + 1) (f v + 1) o5 (by omega) (by omega) (by omega) (fun u a b c => by
            by_cases w : u = v
            · rw [w]; omega
            · have := hb2 u a (by omega) c
              omega) (fun _ => ⟨v, ⟨hsv, by omega⟩, t, rfl⟩)
        · refine vs_ok 3 ?_
          rw [show ((gRes 229).drop 82).take 3 = [.iload 4, .iload 2, .if_icmp .ge 112] from rfl]
          simp (disch := omega) only [vs_if_icmp, vs_iload2, vs_iload4, vs_nil, gv_0, gv_1, gv_2, gv_3, pv_0, pv_1, va_rf_s, Nat.reduceDiv, Nat.reduceMod, Nat.reduceAdd, Nat.reduceMul, Int.reduceToNat, true_and, and_true, and_self, cP_eq, cP_ne, cP_lt, cP_ge, cP_gt, cP_le, eL_i, eL_l, eL_r, eL_n, Option.toList_none, Option.toList_some, List.nil_append, List.cons_append, kkI, llI, nnI, rrI, jjI, kkJ, llJ, nnJ, rrJ, iiJ, zIIs, zJJs, nEF, nET, and_false, false_and, jmin, jmax, catS_n, catS_i, catS_r, catS_l, Nat.reduceLeDiff, j1eq1, n21, jt0, jt1, Bool.false_eq_true, Classical.not_not, true_or, or_true, false_or, or_false, true_imp_iff, false_imp_iff, not_true_eq_false, not_false_eq_true, jif0, jif1, jifb, ltT, ltF, leT, leF, eqT, eqF, jlt, jle, jeq, jlt0, jle0, jeq0, jge0, jgt0, jinB, jnat, clt, cle, ceq, cgt, cge, lI_add, lI_sub, lI_mul, jadd, jsub, jmul, jneg, jtol, b010, b011, pv_2t, Int.toNat_natCast, Option.some.injEq, exists_eq_left', if_true, if_false]
          refine vs_ok 10 ?_
          rw [show ((gRes 229).drop 85).take 10 = [.aload 0, .getfield 12122, .iconst 12, .iload 1, .imul, .iload 4, .iadd, .iaload, .iconst 1, .if_icmp .ne 110] from rfl]
          simp (disch := omega) only [vs_iadd, vs_imul, vs_iconst, vs_if_icmp, vs_getfield, vs_iaload, vs_aload0, vs_iload1, vs_iload4, vs_nil, gv_0, gv_1, gv_2, gv_3, pv_0, pv_1, va_rf_s, Nat.reduceDiv, Nat.reduceMod, Nat.reduceAdd, Nat.reduceMul, Int.reduceToNat, true_and, and_true, and_self, cP_eq, cP_ne, cP_lt, cP_ge, cP_gt, cP_le, eL_i, eL_l, eL_r, eL_n, Option.toList_none, Option.toList_some, List.nil_append, List.cons_append, kkI, llI, nnI, rrI, jjI, kkJ, llJ, nnJ, rrJ, iiJ, zIIs, zJJs, nEF, nET, and_false, false_and, jmin, jmax, catS_n, catS_i, catS_r, catS_l, Nat.reduceLeDiff, j1eq1, n21, jt0, jt1, Bool.false_eq_true, Classical.not_not, true_or, or_true, false_or, or_false, true_imp_iff, false_imp_iff, not_true_eq_false, not_false_eq_true, jif0, jif1, jifb, ltT, ltF, leT, leF, eqT, eqF, jlt, jle, jeq, jlt0, jle0, jeq0, jge0, jgt0, jinB, jnat, clt, cle, ceq, cgt, cge, lI_add, lI_sub, lI_mul, jadd, jsub, jmul, jneg, jtol, b010, b011, pv_2t, Int.toNat_natCast, Option.some.injEq, exists_eq_left', if_true, if_false, M1, A8, e12, x, c1]
          refine vs_ok 8 ?_
          rw [show ((gRes 229).drop 95).take 8 = [.aload 0, .getfield 12262, .iload 4, .iaload, .iconst 1, .iadd, .iload 3, .if_icmp .ge 110] from rfl]
          simp (disch := omega) only [vs_iadd, vs_iconst, vs_if_icmp, vs_getfield, vs_iaload, vs_aload0, vs_iload3, vs_iload4, vs_nil, gv_0, gv_1, gv_2, gv_3, pv_0, pv_1, va_rf_s, Nat.reduceDiv, Nat.reduceMod, Nat.reduceAdd, Nat.reduceMul, Int.reduceToNat, true_and, and_true, and_self, cP_eq, cP_ne, cP_lt, cP_ge, cP_gt, cP_le, eL_i, eL_l, eL_r, eL_n, Option.toList_none, Option.toList_some, List.nil_append, List.cons_append, kkI, llI, nnI, rrI, jjI, kkJ, llJ, nnJ, rrJ, iiJ, zIIs, zJJs, nEF, nET, and_false, false_and, jmin, jmax, catS_n, catS_i, catS_r, catS_l, Nat.reduceLeDiff, j1eq1, n21, jt0, jt1, Bool.false_eq_true, Classical.not_not, true_or, or_true, false_or, or_false, true_imp_iff, false_imp_iff, not_true_eq_false, not_false_eq_true, jif0, jif1, jifb, ltT, ltF, leT, leF, eqT, eqF, jlt, jle, jeq, jlt0, jle0, jeq0, jge0, jgt0, jinB, jnat, clt, cle, ceq, cgt, cge, lI_add, lI_sub, lI_mul, jadd, jsub, jmul, jneg, jtol, b010, b011, pv_2t, Int.toNat_natCast, Option.some.injEq, exists_eq_left', if_true, if_false, M1, A1, y]
          refine vs_ok 2 ?_
          rw [show ((gRes 229).drop 110).take 2 = [.iinc 4 1, .goto 82] from rfl]
          simp (disch := omega) only [vs_goto, vs_iinc4n, vs_iinc4i, vs_iinc4r, vs_iinc4l, vs_nil, gv_0, gv_1, gv_2, gv_3, pv_0, pv_1, va_rf_s, Nat.reduceDiv, Nat.reduceMod, Nat.reduceAdd, Nat.reduceMul, Int.reduceToNat, true_and, and_true, and_self, cP_eq, cP_ne, cP_lt, cP_ge, cP_gt, cP_le, eL_i, eL_l, eL_r, eL_n, Option.toList_none, Option.toList_some, List.nil_append, List.cons_append, kkI, llI, nnI, rrI, jjI, kkJ, llJ, nnJ, rrJ, iiJ, zIIs, zJJs, nEF, nET, and_false, false_and, jmin, jmax, catS_n, catS_i, catS_r, catS_l, Nat.reduceLeDiff, j1eq1, n21, jt0, jt1, Bool.false_eq_true, Classical.not_not, true_or, or_true, false_or, or_false, true_imp_iff, false_imp_iff, not_true_eq_false, not_false_eq_true, jif0, jif1, jifb, ltT, ltF, leT, leF, eqT, eqF, jlt, jle, jeq, jlt0, jle0, jeq0, jge0, jgt0, jinB, jnat, clt, cle, ceq, cgt, cge, lI_add, lI_sub, lI_mul, jadd, jsub, jmul, jneg, jtol, b010, b011, pv_2t, Int.toNat_natCast, Option.some.injEq, exists_eq_left', if_true, if_false]
          exact ih (v + 1) b o5 (by omega) (by omega) hb1 (fun u a b' c => by
            by_cases w : u = v
            · rw [w]; omega
            · exact hb2 u a (by omega) c) hb3
      · refine vs_ok 3 ?_
        rw [show ((gRes 229).drop 82).take 3 = [.iload 4, .iload 2, .if_icmp .ge 112] from rfl]
        simp (disch := omega) only [vs_if_icmp, vs_iload2, vs_iload4, vs_nil, gv_0, gv_1, gv_2, gv_3, pv_0, pv_1, va_rf_s, Nat.reduceDiv, Nat.reduceMod, Nat.reduceAdd, Nat.reduceMul, Int.reduceToNat, true_and, and_true, and_self, cP_eq, cP_ne, cP_lt, cP_ge, cP_gt, cP_le, eL_i, eL_l, eL_r, eL_n, Option.toList_none, Option.toList_some, List.nil_append, List.cons_append, kkI, llI, nnI, rrI, jjI, kkJ, llJ, nnJ, rrJ, iiJ, zIIs, zJJs, nEF, nET, and_false, false_and, jmin, jmax, catS_n, catS_i, catS_r, catS_l, Nat.reduceLeDiff, j1eq1, n21, jt0, jt1, Bool.false_eq_true, Classical.not_not, true_or, or_true, false_or, or_false, true_imp_iff, false_imp_iff, not_true_eq_false, not_false_eq_true, jif0, jif1, jifb, ltT, ltF, leT, leF, eqT, eqF, jlt, jle, jeq, jlt0, jle0, jeq0, jge0, jgt0, jinB, jnat, clt, cle, ceq, cgt, cge, lI_add, lI_sub, lI_mul, jadd, jsub, jmul, jneg, jtol, b010, b011, pv_2t, Int.toNat_natCast, Option.some.injEq, exists_eq_left', if_true, if_false]
        refine vs_ok 10 ?_
        rw [show ((gRes 229).drop 85).take 10 = [.aload 0, .getfield 12122, .iconst 12, .iload 1, .imul, .iload 4, .iadd, .iaload, .iconst 1, .if_icmp .ne 110] from rfl]
        simp (disch := omega) only [vs_iadd, vs_imul, vs_iconst, vs_if_icmp, vs_getfield, vs_iaload, vs_aload0, vs_iload1, vs_iload4, vs_nil, gv_0, gv_1, gv_2, gv_3, pv_0, pv_1, va_rf_s, Nat.reduceDiv, Nat.reduceMod, Nat.reduceAdd, Nat.reduceMul, Int.reduceToNat, true_and, and_true, and_self, cP_eq, cP_ne, cP_lt, cP_ge, cP_gt, cP_le, eL_i, eL_l, eL_r, eL_n, Option.toList_none, Option.toList_some, List.nil_append, List.cons_append, kkI, llI, nnI, rrI, jjI, kkJ, llJ, nnJ, rrJ, iiJ, zIIs, zJJs, nEF, nET, and_false, false_and, jmin, jmax, catS_n, catS_i, catS_r, catS_l, Nat.reduceLeDiff, j1eq1, n21, jt0, jt1, Bool.false_eq_true, Classical.not_not, true_or, or_true, false_or, or_false, true_imp_iff, false_imp_iff, not_true_eq_false, not_false_eq_true, jif0, jif1, jifb, ltT, ltF, leT, leF, eqT, eqF, jlt, jle, jeq, jlt0, jle0, jeq0, jge0, jgt0, jinB, jnat, clt, cle, ceq, cgt, cge, lI_add, lI_sub, lI_mul, jadd, jsub, jmul, jneg, jtol, b010, b011, pv_2t, Int.toNat_natCast, Option.some.injEq, exists_eq_left', if_true, if_false, M1, A8, e12, x]
        refine vs_ok 2 ?_
        rw [show ((gRes 229).drop 110).take 2 = [.iinc 4 1, .goto 82] from rfl]
        simp (disch := omega) only [vs_goto, vs_iinc4n, vs_iinc4i, vs_iinc4r, vs_iinc4l, vs_nil, gv_0, gv_1, gv_2, gv_3, pv_0, pv_1, va_rf_s, Nat.reduceDiv, Nat.reduceMod, Nat.reduceAdd, Nat.reduceMul, Int.reduceToNat, true_and, and_true, and_self, cP_eq, cP_ne, cP_lt, cP_ge, cP_gt, cP_le, eL_i, eL_l, eL_r, eL_n, Option.toList_none, Option.toList_some, List.nil_append, List.cons_append, kkI, llI, nnI, rrI, jjI, kkJ, llJ, nnJ, rrJ, iiJ, zIIs, zJJs, nEF, nET, and_false, false_and, jmin, jmax, catS_n, catS_i, catS_r, catS_l, Nat.reduceLeDiff, j1eq1, n21, jt0, jt1, Bool.false_eq_true, Classical.not_not, true_or, or_true, false_or, or_false, true_imp_iff, false_imp_iff, not_true_eq_false, not_false_eq_true, jif0, jif1, jifb, ltT, ltF, leT, leF, eqT, eqF, jlt, jle, jeq, jlt0, jle0, jeq0, jge0, jgt0, jinB, jnat, clt, cle, ceq, cgt, cge, lI_add, lI_sub, lI_mul, jadd, jsub, jmul, jneg, jtol, b010, b011, pv_2t, Int.toNat_natCast, Option.some.injEq, exists_eq_left', if_true, if_false]
        exact ih (v + 1) b o5 (by omega) (by omega) hb1 (fun u a b' c => by
          by_cases w : u = v
          · rw [w] at c
            exact absurd ((ed s v hs (by omega)).mpr c) c1
          · exact hb2 u a (by omega) c) hb3
  -- one NAME's step: all it beats
  have l3 : ∀ (r v : Nat), s < v → v < nm → ∀ (j w : Nat) (f : Nat → Nat) (g : Hp), j + w = nm → s ≤ w → fi (fun q => q = m + 15) h g → (∀ v, v < nm → zI g (m + 15) v = iI (f v : Nat)) → (∀ u, u < nm → f u ≤ 100 ∧ (f u < 100 → rch bt nm s (f u) u)) → (∀ u, s ≤ u → u < w → (bt v).testBit u = true → f v ≤ f u + 1) → (∀ (f' : Nat → Nat) (g' : Hp) (o : Option Value), fi (fun q => q = m + 15) h g' → (∀ v, v < nm → zI g' (m + 15) v = iI (f' v : Nat)) → (∀ u, u < nm → f' u ≤ 100 ∧ (f' u < 100 → rch bt nm s (f' u) u)) → (∀ u, s ≤ u → u < nm → (bt v).testBit u = true → f' v ≤ f' u + 1) → (∀ u, f' u ≤ f u) → PW d 229 72 [some (.ref m), some (.int (iI s)), some (.int (iI nm)), some (.int (iI r)), some (.int (iI v)), o] [] g' Q) → PW d 229 36 [some (.ref m), some (.int (iI s)), some (.int (iI nm)), some (.int (iI r)), some (.int (iI v)), some (.int (iI w))] [] g Q := by
    intro r v hsv hvn j
    induction j with
    | zero =>
      intro w f g hw hsw fg hI hi he K
      have e : w = nm := by omega
      subst e
      refine vs_ok 3 ?_
      rw [show ((gRes 229).drop 36).take 3 = [.iload 5, .iload 2, .if_icmp .ge 72] from rfl]
      simp (disch := omega) only [vs_if_icmp, vs_iload2, vs_iload5, vs_nil, gv_0, gv_1, gv_2, gv_3, pv_0, pv_1, va_rf_s, Nat.reduceDiv, Nat.reduceMod, Nat.reduceAdd, Nat.reduceMul, Int.reduceToNat, true_and, and_true, and_self, cP_eq, cP_ne, cP_lt, cP_ge, cP_gt, cP_le, eL_i, eL_l, eL_r, eL_n, Option.toList_none, Option.toList_some, List.nil_append, List.cons_append, kkI, llI, nnI, rrI, jjI, kkJ, llJ, nnJ, rrJ, iiJ, zIIs, zJJs, nEF, nET, and_false, false_and, jmin, jmax, catS_n, catS_i, catS_r, catS_l, Nat.reduceLeDiff, j1eq1, n21, jt0, jt1, Bool.false_eq_true, Classical.not_not, true_or, or_true, false_or, or_false, true_imp_iff, false_imp_iff, not_true_eq_false, not_false_eq_true, jif0, jif1, jifb, ltT, ltF, leT, leF, eqT, eqF, jlt, jle, jeq, jlt0, jle0, jeq0, jge0, jgt0, jinB, jnat, clt, cle, ceq, cgt, cge, lI_add, lI_sub, lI_mul, jadd, jsub, jmul, jneg, jtol, b010, b011, pv_2t, Int.toNat_natCast, Option.some.injEq, exists_eq_left', if_true, if_false]
      exact K f g _ fg hI hi he fun u => Nat.le_refl _
    | succ j ih =>
      intro w f g hw hsw fg hI hi he K
      obtain ⟨M1, A1, A8, n1⟩ := dec g fg
      have x := n1 v w hvn (by omega)
      have y1 := hI w (by omega)
      have y2 := hI v hvn
      have sb := nsg_b bt v w
      have b1 := (hi w (by omega)).1
      have b2 := (hi v hvn).1
      by_cases c1 : nsg bt v w = 1
      · have t := (ed v w hvn (by omega)).mp c1
        have wv : w ≠ v := ((hp v hvn).2 w t).1
        by_cases c2 : f w + 1 < f v
        · have rw' : rch bt nm s (f w + 1) v := ⟨⟨hsv, hvn⟩, w, t, (hi w (by omega)).2 (by omega)⟩
          refine vs_ok 3 ?_
          rw [show ((gRes 229).drop 36).take 3 = [.iload 5, .iload 2, .if_icmp .ge 72] from rfl]
          simp (disch := omega) only [vs_if_icmp, vs_iload2, vs_iload5, vs_nil, gv_0, gv_1, gv_2, gv_3, pv_0, pv_1, va_rf_s, Nat.reduceDiv, Nat.reduceMod, Nat.reduceAdd, Nat.reduceMul, Int.reduceToNat, true_and, and_true, and_self, cP_eq, cP_ne, cP_lt, cP_ge, cP_gt, cP_le, eL_i, eL_l, eL_r, eL_n, Option.toList_none, Option.toList_some, List.nil_append, List.cons_append, kkI, llI, nnI, rrI, jjI, kkJ, llJ, nnJ, rrJ, iiJ, zIIs, zJJs, nEF, nET, and_false, false_and, jmin, jmax, catS_n, catS_i, catS_r, catS_l, Nat.reduceLeDiff, j1eq1, n21, jt0, jt1, Bool.false_eq_true, Classical.not_not, true_or, or_true, false_or, or_false, true_imp_iff, false_imp_iff, not_true_eq_false, not_false_eq_true, jif0, jif1, jifb, ltT, ltF, leT, leF, eqT, eqF, jlt, jle, jeq, jlt0, jle0, jeq0, jge0, jgt0, jinB, jnat, clt, cle, ceq, cgt, cge, lI_add, lI_sub, lI_mul, jadd, jsub, jmul, jneg, jtol, b010, b011, pv_2t, Int.toNat_natCast, Option.some.injEq, exists_eq_left', if_true, if_false]
          refine vs_ok 10 ?_
          rw [show ((gRes 229).drop 39).take 10 = [.aload 0, .getfield 12122, .iconst 12, .iload 4, .imul, .iload 5, .iadd, .iaload, .iconst 1, .if_icmp .ne 70] from rfl]
          simp (disch := omega) only [vs_iadd, vs_imul, vs_iconst, vs_if_icmp, vs_getfield, vs_iaload, vs_aload0, vs_iload4, vs_iload5, vs_nil, gv_0, gv_1, gv_2, gv_3, pv_0, pv_1, va_rf_s, Nat.reduceDiv, Nat.reduceMod, Nat.reduceAdd, Nat.reduceMul, Int.reduceToNat, true_and, and_true, and_self, cP_eq, cP_ne, cP_lt, cP_ge, cP_gt, cP_le, eL_i, eL_l, eL_r, eL_n, Option.toList_none, Option.toList_some, List.nil_append, List.cons_append, kkI, llI, nnI, rrI, jjI, kkJ, llJ, nnJ, rrJ, iiJ, zIIs, zJJs, nEF, nET, and_false, false_and, jmin, jmax, catS_n, catS_i, catS_r, catS_l, Nat.reduceLeDiff, j1eq1, n21, jt0, jt1, Bool.false_eq_true, Classical.not_not, true_or, or_true, false_or, or_false, true_imp_iff, false_imp_iff, not_true_eq_false, not_false_eq_true, jif0, jif1, jifb, ltT, ltF, leT, leF, eqT, eqF, jlt, jle, jeq, jlt0, jle0, jeq0, jge0, jgt0, jinB, jnat, clt, cle, ceq, cgt, cge, lI_add, lI_sub, lI_mul, jadd, jsub, jmul, jneg, jtol, b010, b011, pv_2t, Int.toNat_natCast, Option.some.injEq, exists_eq_left', if_true, if_false, M1, A8, e12, x, c1]
          refine vs_ok 11 ?_
          rw [show ((gRes 229).drop 49).take 11 = [.aload 0, .getfield 12262, .iload 5, .iaload, .iconst 1, .iadd, .aload 0, .getfield 12262, .iload 4, .iaload, .if_icmp .ge 70] from rfl]
          simp (disch := omega) only [vs_iadd, vs_iconst, vs_if_icmp, vs_getfield, vs_iaload, vs_aload0, vs_iload4, vs_iload5, vs_nil, gv_0, gv_1, gv_2, gv_3, pv_0, pv_1, va_rf_s, Nat.reduceDiv, Nat.reduceMod, Nat.reduceAdd, Nat.reduceMul, Int.reduceToNat, true_and, and_true, and_self, cP_eq, cP_ne, cP_lt, cP_ge, cP_gt, cP_le, eL_i, eL_l, eL_r, eL_n, Option.toList_none, Option.toList_some, List.nil_append, List.cons_append, kkI, llI, nnI, rrI, jjI, kkJ, llJ, nnJ, rrJ, iiJ, zIIs, zJJs, nEF, nET, and_false, false_and, jmin, jmax, catS_n, catS_i, catS_r, catS_l, Nat.reduceLeDiff, j1eq1, n21, jt0, jt1, Bool.false_eq_true, Classical.not_not, true_or, or_true, false_or, or_false, true_imp_iff, false_imp_iff, not_true_eq_false, not_false_eq_true, jif0, jif1, jifb, ltT, ltF, leT, leF, eqT, eqF, jlt, jle, jeq, jlt0, jle0, jeq0, jge0, jgt0, jinB, jnat, clt, cle, ceq, cgt, cge, lI_add, lI_sub, lI_mul, jadd, jsub, jmul, jneg, jtol, b010, b011, pv_2t, Int.toNat_natCast, Option.some.injEq, exists_eq_left', if_true, if_false, M1, A1, y1, y2]
          refine vs_ok 10 ?_
          rw [show ((gRes 229).drop 60).take 10 = [.aload 0, .getfield 12262, .iload 4, .aload 0, .getfield 12262, .iload 5, .iaload, .iconst 1, .iadd, .iastore] from rfl]
          simp (disch := omega) only [vs_iadd, vs_iconst, vs_getfield, vs_iaload, vs_iastore, vs_aload0, vs_iload4, vs_iload5, vs_nil, gv_0, gv_1, gv_2, gv_3, pv_0, pv_1, va_rf_s, Nat.reduceDiv, Nat.reduceMod, Nat.reduceAdd, Nat.reduceMul, Int.reduceToNat, true_and, and_true, and_self, cP_eq, cP_ne, cP_lt, cP_ge, cP_gt, cP_le, eL_i, eL_l, eL_r, eL_n, Option.toList_none, Option.toList_some, List.nil_append, List.cons_append, kkI, llI, nnI, rrI, jjI, kkJ, llJ, nnJ, rrJ, iiJ, zIIs, zJJs, nEF, nET, and_false, false_and, jmin, jmax, catS_n, catS_i, catS_r, catS_l, Nat.reduceLeDiff, j1eq1, n21, jt0, jt1, Bool.false_eq_true, Classical.not_not, true_or, or_true, false_or, or_false, true_imp_iff, false_imp_iff, not_true_eq_false, not_false_eq_true, jif0, jif1, jifb, ltT, ltF, leT, leF, eqT, eqF, jlt, jle, jeq, jlt0, jle0, jeq0, jge0, jgt0, jinB, jnat, clt, cle, ceq, cgt, cge, lI_add, lI_sub, lI_mul, jadd, jsub, jmul, jneg, jtol, b010, b011, pv_2t, Int.toNat_natCast, Option.some.injEq, exists_eq_left', if_true, if_false, M1, A1, y1]
          refine vs_ok 2 ?_
          rw [show ((gRes 229).drop 70).take 2 = [.iinc 5 1, .goto 36] from rfl]
          simp (disch := omega) only [vs_goto, vs_iinc5n, vs_iinc5i, vs_iinc5r, vs_iinc5l, vs_nil, gv_0, gv_1, gv_2, gv_3, pv_0, pv_1, va_rf_s, Nat.reduceDiv, Nat.reduceMod, Nat.reduceAdd, Nat.reduceMul, Int.reduceToNat, true_and, and_true, and_self, cP_eq, cP_ne, cP_lt, cP_ge, cP_gt, cP_le, eL_i, eL_l, eL_r, eL_n, Option.toList_none, Option.toList_some, List.nil_append, List.cons_append, kkI, llI, nnI, rrI, jjI, kkJ, llJ, nnJ, rrJ, iiJ, zIIs, zJJs, nEF, nET, and_false, false_and, jmin, jmax, catS_n, catS_i, catS_r, catS_l, Nat.reduceLeDiff, j1eq1, n21, jt0, jt1, Bool.false_eq_true, Classical.not_not, true_or, or_true, false_or, or_false, true_imp_iff, false_imp_iff, not_true_eq_false, not_false_eq_true, jif0, jif1, jifb, ltT, ltF, leT, leF, eqT, eqF, jlt, jle, jeq, jlt0, jle0, jeq0, jge0, jgt0, jinB, jnat, clt, cle, ceq, cgt, cge, lI_add, lI_sub, lI_mul, jadd, jsub, jmul, jneg, jtol, b010, b011, pv_2t, Int.toNat_natCast, Option.some.injEq, exists_eq_left', if_true, if_false]
          refine ih (w + 1) (fun u => if u = v then f w + 1 else f u) _ (by omega) (by omega) (fg.I rfl) (fun u hu => ?_) (fun u hu => ?_) (fun u a b c => ?_) fun f' g' o k1 k2 k3 k4 k5 => K f' g' o k1 k2 k3 k4 fun u => ?_
          · rw [zI_s]
            try dsimp only
            by_cases z : u = v
            · rw [if_pos ⟨rfl, z⟩, if_pos z]
              rfl
            · rw [if_neg fun q => z q.2, if_neg z]
              exact hI u hu
          · try dsimp only
            by_cases z : u = v
            · rw [if_pos z, z]
              exact ⟨by omega, fun _ => rw'⟩
            · rw [if_neg z]
              exact hi u hu
          · try dsimp only
            rw [if_pos rfl]
            have uv : u ≠ v := ((hp v hvn).2 u c).1
            rw [if_neg uv]
            by_cases z : u = w
            · rw [z]
              exact Nat.le_refl _
            · have := he u a (by omega) c
              omega
          · have := k5 u
            try dsimp only at this
            by_cases z : u = v
            · rw [if_pos z] at this
              rw [z] at this ⊢
              omega
            · rw [if_neg z] at this
              exact this
        · refine vs_ok 3 ?_
          rw [show ((gRes 229).drop 36).take 3 = [.iload 5, .iload 2, .if_icmp .ge 72] from rfl]
          simp (disch := omega) only [vs_if_icmp, vs_iload2, vs_iload5, vs_nil, gv_0, gv_1, gv_2, gv_3, pv_0, pv_1, va_rf_s, Nat.reduceDiv, Nat.reduceMod, Nat.reduceAdd, Nat.reduceMul, Int.reduceToNat, true_and, and_true, and_self, cP_eq, cP_ne, cP_lt, cP_ge, cP_gt, cP_le, eL_i, eL_l, eL_r, eL_n, Option.toList_none, Option.toList_some, List.nil_append, List.cons_append, kkI, llI, nnI, rrI, jjI, kkJ, llJ, nnJ, rrJ, iiJ, zIIs, zJJs, nEF, nET, and_false, false_and, jmin, jmax, catS_n, catS_i, catS_r, catS_l, Nat.reduceLeDiff, j1eq1, n21, jt0, jt1, Bool.false_eq_true, Classical.not_not, true_or, or_true, false_or, or_false, true_imp_iff, false_imp_iff, not_true_eq_false, not_false_eq_true, jif0, jif1, jifb, ltT, ltF, leT, leF, eqT, eqF, jlt, jle, jeq, jlt0, jle0, jeq0, jge0, jgt0, jinB, jnat, clt, cle, ceq, cgt, cge, lI_add, lI_sub, lI_mul, jadd, jsub, jmul, jneg, jtol, b010, b011, pv_2t, Int.toNat_natCast, Option.some.injEq, exists_eq_left', if_true, if_false]
          refine vs_ok 10 ?_
          rw [show ((gRes 229).drop 39).take 10 = [.aload 0, .getfield 12122, .iconst 12, .iload 4, .imul, .iload 5, .iadd, .iaload, .iconst 1, .if_icmp .ne 70] from rfl]
          simp (disch := omega) only [vs_iadd, vs_imul, vs_iconst, vs_if_icmp, vs_getfield, vs_iaload, vs_aload0, vs_iload4, vs_iload5, vs_nil, gv_0, gv_1, gv_2, gv_3, pv_0, pv_1, va_rf_s, Nat.reduceDiv, Nat.reduceMod, Nat.reduceAdd, Nat.reduceMul, Int.reduceToNat, true_and, and_true, and_self, cP_eq, cP_ne, cP_lt, cP_ge, cP_gt, cP_le, eL_i, eL_l, eL_r, eL_n, Option.toList_none, Option.toList_some, List.nil_append, List.cons_append, kkI, llI, nnI, rrI, jjI, kkJ, llJ, nnJ, rrJ, iiJ, zIIs, zJJs, nEF, nET, and_false, false_and, jmin, jmax, catS_n, catS_i, catS_r, catS_l, Nat.reduceLeDiff, j1eq1, n21, jt0, jt1, Bool.false_eq_true, Classical.not_not, true_or, or_true, false_or, or_false, true_imp_iff, false_imp_iff, not_true_eq_false, not_false_eq_true, jif0, jif1, jifb, ltT, ltF, leT, leF, eqT, eqF, jlt, jle, jeq, jlt0, jle0, jeq0, jge0, jgt0, jinB, jnat, clt, cle, ceq, cgt, cge, lI_add, lI_sub, lI_mul, jadd, jsub, jmul, jneg, jtol, b010, b011, pv_2t, Int.toNat_natCast, Option.some.injEq, exists_eq_left', if_true, if_false, M1, A8, e12, x, c1]
          refine vs_ok 11 ?_
          rw [show ((gRes 229).drop 49).take 11 = [.aload 0, .getfield 12262, .iload 5, .iaload, .iconst 1, .iadd, .aload 0, .getfield 12262, .iload 4, .iaload, .if_icmp .ge 70] from rfl]
          simp (disch := omega) only [vs_iadd, vs_iconst, vs_if_icmp, vs_getfield, vs_iaload, vs_aload0, vs_iload4, vs_iload5, vs_nil, gv_0, gv_1, gv_2, gv_3, pv_0, pv_1, va_rf_s, Nat.reduceDiv, Nat.reduceMod, Nat.reduceAdd, Nat.reduceMul, Int.reduceToNat, true_and, and_true, and_self, cP_eq, cP_ne, cP_lt, cP_ge, cP_gt, cP_le, eL_i, eL_l, eL_r, eL_n, Option.toList_none, Option.toList_some, List.nil_append, List.cons_append, kkI, llI, nnI, rrI, jjI, kkJ, llJ, nnJ, rrJ, iiJ, zIIs, zJJs, nEF, nET, and_false, false_and, jmin, jmax, catS_n, catS_i, catS_r, catS_l, Nat.reduceLeDiff, j1eq1, n21, jt0, jt1, Bool.false_eq_true, Classical.not_not, true_or, or_true, false_or, or_false, true_imp_iff, false_imp_iff, not_true_eq_false, not_false_eq_true, jif0, jif1, jifb, ltT, ltF, leT, leF, eqT, eqF, jlt, jle, jeq, jlt0, jle0, jeq0, jge0, jgt0, jinB, jnat, clt, cle, ceq, cgt, cge, lI_add, lI_sub, lI_mul, jadd, jsub, jmul, jneg, jtol, b010, b011, pv_2t, Int.toNat_natCast, Option.some.injEq, exists_eq_left', if_true, if_false, M1, A1, y1, y2]
          refine vs_ok 2 ?_
          rw [show ((gRes 229).drop 70).take 2 = [.iinc 5 1, .goto 36] from rfl]
          simp (disch := omega) only [vs_goto, vs_iinc5n, vs_iinc5i, vs_iinc5r, vs_iinc5l, vs_nil, gv_0, gv_1, gv_2, gv_3, pv_0, pv_1, va_rf_s, Nat.reduceDiv, Nat.reduceMod, Nat.reduceAdd, Nat.reduceMul, Int.reduceToNat, true_and, and_true, and_self, cP_eq, cP_ne, cP_lt, cP_ge, cP_gt, cP_le, eL_i, eL_l, eL_r, eL_n, Option.toList_none, Option.toList_some, List.nil_append, List.cons_append, kkI, llI, nnI, rrI, jjI, kkJ, llJ, nnJ, rrJ, iiJ, zIIs, zJJs, nEF, nET, and_false, false_and, jmin, jmax, catS_n, catS_i, catS_r, catS_l, Nat.reduceLeDiff, j1eq1, n21, jt0, jt1, Bool.false_eq_true, Classical.not_not, true_or, or_true, false_or, or_false, true_imp_iff, false_imp_iff, not_true_eq_false, not_false_eq_true, jif0, jif1, jifb, ltT, ltF, leT, leF, eqT, eqF, jlt, jle, jeq, jlt0, jle0, jeq0, jge0, jgt0, jinB, jnat, clt, cle, ceq, cgt, cge, lI_add, lI_sub, lI_mul, jadd, jsub, jmul, jneg, jtol, b010, b011, pv_2t, Int.toNat_natCast, Option.some.injEq, exists_eq_left', if_true, if_false]
          exact ih (w + 1) f g (by omega) (by omega) fg hI hi (fun u a b c => by
            by_cases z : u = w
            · rw [z]; omega
            · exact he u a (by omega) c) K
      · refine vs_ok 3 ?_
        rw [show ((gRes 229).drop 36).take 3 = [.iload 5, .iload 2, .if_icmp .ge 72] from rfl]
        simp (disch := omega) only [vs_if_icmp, vs_iload2, vs_iload5, vs_nil, gv_0, gv_1, gv_2, gv_3, pv_0, pv_1, va_rf_s, Nat.reduceDiv, Nat.reduceMod, Nat.reduceAdd, Nat.reduceMul, Int.reduceToNat, true_and, and_true, and_self, cP_eq, cP_ne, cP_lt, cP_ge, cP_gt, cP_le, eL_i, eL_l, eL_r, eL_n, Option.toList_none, Option.toList_some, List.nil_append, List.cons_append, kkI, llI, nnI, rrI, jjI, kkJ, llJ, nnJ, rrJ, iiJ, zIIs, zJJs, nEF, nET, and_false, false_and, jmin, jmax, catS_n, catS_i, catS_r, catS_l, Nat.reduceLeDiff, j1eq1, n21, jt0, jt1, Bool.false_eq_true, Classical.not_not, true_or, or_true, false_or, or_false, true_imp_iff, false_imp_iff, not_true_eq_false, not_false_eq_true, jif0, jif1, jifb, ltT, ltF, leT, leF, eqT, eqF, jlt, jle, jeq, jlt0, jle0, jeq0, jge0, jgt0, jinB, jnat, clt, cle, ceq, cgt, cge, lI_add, lI_sub, lI_mul, jadd, jsub, jmul, jneg, jtol, b010, b011, pv_2t, Int.toNat_natCast, Option.some.injEq, exists_eq_left', if_true, if_false]
        refine vs_ok 10 ?_
        rw [show ((gRes 229).drop 39).take 10 = [.aload 0, .getfield 12122, .iconst 12, .iload 4, .imul, .iload 5, .iadd, .iaload, .iconst 1, .if_icmp .ne 70] from rfl]
        simp (disch := omega) only [vs_iadd, vs_imul, vs_iconst, vs_if_icmp, vs_getfield, vs_iaload, vs_aload0, vs_iload4, vs_iload5, vs_nil, gv_0, gv_1, gv_2, gv_3, pv_0, pv_1, va_rf_s, Nat.reduceDiv, Nat.reduceMod, Nat.reduceAdd, Nat.reduceMul, Int.reduceToNat, true_and, and_true, and_self, cP_eq, cP_ne, cP_lt, cP_ge, cP_gt, cP_le, eL_i, eL_l, eL_r, eL_n, Option.toList_none, Option.toList_some, List.nil_append, List.cons_append, kkI, llI, nnI, rrI, jjI, kkJ, llJ, nnJ, rrJ, iiJ, zIIs, zJJs, nEF, nET, and_false, false_and, jmin, jmax, catS_n, catS_i, catS_r, catS_l, Nat.reduceLeDiff, j1eq1, n21, jt0, jt1, Bool.false_eq_true, Classical.not_not, true_or, or_true, false_or, or_false, true_imp_iff, false_imp_iff, not_true_eq_false, not_false_eq_true, jif0, jif1, jifb, ltT, ltF, leT, leF, eqT, eqF, jlt, jle, jeq, jlt0, jle0, jeq0, jge0, jgt0, jinB, jnat, clt, cle, ceq, cgt, cge, lI_add, lI_sub, lI_mul, jadd, jsub, jmul, jneg, jtol, b010, b011, pv_2t, Int.toNat_natCast, Option.some.injEq, exists_eq_left', if_true, if_false, M1, A8, e12, x]
        refine vs_ok 2 ?_
        rw [show ((gRes 229).drop 70).take 2 = [.iinc 5 1, .goto 36] from rfl]
        simp (disch := omega) only [vs_goto, vs_iinc5n, vs_iinc5i, vs_iinc5r, vs_iinc5l, vs_nil, gv_0, gv_1, gv_2, gv_3, pv_0, pv_1, va_rf_s, Nat.reduceDiv, Nat.reduceMod, Nat.reduceAdd, Nat.reduceMul, Int.reduceToNat, true_and, and_true, and_self, cP_eq, cP_ne, cP_lt, cP_ge, cP_gt, cP_le, eL_i, eL_l, eL_r, eL_n, Option.toList_none, Option.toList_some, List.nil_append, List.cons_append, kkI, llI, nnI, rrI, jjI, kkJ, llJ, nnJ, rrJ, iiJ, zIIs, zJJs, nEF, nET, and_false, false_and, jmin, jmax, catS_n, catS_i, catS_r, catS_l, Nat.reduceLeDiff, j1eq1, n21, jt0, jt1, Bool.false_eq_true, Classical.not_not, true_or, or_true, false_or, or_false, true_imp_iff, false_imp_iff, not_true_eq_false, not_false_eq_true, jif0, jif1, jifb, ltT, ltF, leT, leF, eqT, eqF, jlt, jle, jeq, jlt0, jle0, jeq0, jge0, jgt0, jinB, jnat, clt, cle, ceq, cgt, cge, lI_add, lI_sub, lI_mul, jadd, jsub, jmul, jneg, jtol, b010, b011, pv_2t, Int.toNat_natCast, Option.some.injEq, exists_eq_left', if_true, if_false]
        exact ih (w + 1) f g (by omega) (by omega) fg hI hi (fun u a b c => by
          by_cases z : u = w
          · rw [z] at c
            exact absurd ((ed v w hvn (by omega)).mpr c) c1
          · exact he u a (by omega) c) K
  -- a round
  have l2 : ∀ (r : Nat), r < nm → ∀ (j v : Nat) (f : Nat → Nat) (g : Hp) (o5 : Option Value), j + v = nm → s < v → fi (fun q => q = m + 15) h g → (∀ v, v < nm → zI g (m + 15) v = iI (f v : Nat)) → (∀ u, u < nm → f u ≤ 100 ∧ (f u < 100 → rch bt nm s (f u) u)) → (∀ u k, u < nm → k ≤ r → rch bt nm s k u → f u ≤ k) → (∀ u k, u < v → k ≤ r + 1 → rch bt nm s k u → f u ≤ k) → (∀ (f' : Nat → Nat) (g' : Hp) (o4 o5 : Option Value), fi (fun q => q = m + 15) h g' → (∀ v, v < nm → zI g' (m + 15) v = iI (f' v : Nat)) → (∀ u, u < nm → f' u ≤ 100 ∧ (f' u < 100 → rch bt nm s (f' u) u)) → (∀ u k, u < nm → k ≤ r + 1 → rch bt nm s k u → f' u ≤ k) → PW d 229 74 [some (.ref m), some (.int (iI s)), some (.int (iI nm)), some (.int (iI r)), o4, o5] [] g' Q) → PW d 229 31 [some (.ref m), some (.int (iI s)), some (.int (iI nm)), some (.int (iI r)), some (.int (iI v)), o5] [] g Q := by
    intro r hr j
    induction j with
    | zero =>
      intro v f g o5 hv hsv fg hI hi h1 h2 K
      have e : v = nm := by omega
      subst e
      refine vs_ok 3 ?_
      rw [show ((gRes 229).drop 31).take 3 = [.iload 4, .iload 2, .if_icmp .ge 74] from rfl]
      simp (disch := omega) only [vs_if_icmp, vs_iload2, vs_iload4, vs_nil, gv_0, gv_1, gv_2, gv_3, pv_0, pv_1, va_rf_s, Nat.reduceDiv, Nat.reduceMod, Nat.reduceAdd, Nat.reduceMul, Int.reduceToNat, true_and, and_true, and_self, cP_eq, cP_ne, cP_lt, cP_ge, cP_gt, cP_le, eL_i, eL_l, eL_r, eL_n, Option.toList_none, Option.toList_some, List.nil_append, List.cons_append, kkI, llI, nnI, rrI, jjI, kkJ, llJ, nnJ, rrJ, iiJ, zIIs, zJJs, nEF, nET, and_false, false_and, jmin, jmax, catS_n, catS_i, catS_r, catS_l, Nat.reduceLeDiff, j1eq1, n21, jt0, jt1, Bool.false_eq_true, Classical.not_not, true_or, or_true, false_or, or_false, true_imp_iff, false_imp_iff, not_true_eq_false, not_false_eq_true, jif0, jif1, jifb, ltT, ltF, leT, leF, eqT, eqF, jlt, jle, jeq, jlt0, jle0, jeq0, jge0, jgt0, jinB, jnat, clt, cle, ceq, cgt, cge, lI_add, lI_sub, lI_mul, jadd, jsub, jmul, jneg, jtol, b010, b011, pv_2t, Int.toNat_natCast, Option.some.injEq, exists_eq_left', if_true, if_false]
      exact K f g _ _ fg hI hi h2
    | succ j ih =>
      intro v f g o5 hv hsv fg hI hi h1 h2 K
      refine vs_ok 3 ?_
      rw [show ((gRes 229).drop 31).take 3 = [.iload 4, .iload 2, .if_icmp .ge 74] from rfl]
      simp (disch := omega) only [vs_if_icmp, vs_iload2, vs_iload4, vs_nil, gv_0, gv_1, gv_2, gv_3, pv_0, pv_1, va_rf_s, Nat.reduceDiv, Nat.reduceMod, Nat.reduceAdd, Nat.reduceMul, Int.reduceToNat, true_and, and_true, and_self, cP_eq, cP_ne, cP_lt, cP_ge, cP_gt, cP_le, eL_i, eL_l, eL_r, eL_n, Option.toList_none, Option.toList_some, List.nil_append, List.cons_append, kkI, llI, nnI, rrI, jjI, kkJ, llJ, nnJ, rrJ, iiJ, zIIs, zJJs, nEF, nET, and_false, false_and, jmin, jmax, catS_n, catS_i, catS_r, catS_l, Nat.reduceLeDiff, j1eq1, n21, jt0, jt1, Bool.false_eq_true, Classical.not_not, true_or, or_true, false_or, or_false, true_imp_iff, false_imp_iff, not_true_eq_false, not_false_eq_true, jif0, jif1, jifb, ltT, ltF, leT, leF, eqT, eqF, jlt, jle, jeq, jlt0, jle0, jeq0, jge0, jgt0, jinB, jnat, clt, cle, ceq, cgt, cge, lI_add, lI_sub, lI_mul, jadd, jsub, jmul, jneg, jtol, b010, b011, pv_2t, Int.toNat_natCast, Option.some.injEq, exists_eq_left', if_true, if_false]
      refine vs_ok 2 ?_
      rw [show ((gRes 229).drop 34).take 2 = [.iload 1, .istore 5] from rfl]
      simp (disch := omega) only [vs_iload1, vs_istore5n, vs_istore5i, vs_istore5r, vs_istore5l, vs_nil, gv_0, gv_1, gv_2, gv_3, pv_0, pv_1, va_rf_s, Nat.reduceDiv, Nat.reduceMod, Nat.reduceAdd, Nat.reduceMul, Int.reduceToNat, true_and, and_true, and_self, cP_eq, cP_ne, cP_lt, cP_ge, cP_gt, cP_le, eL_i, eL_l, eL_r, eL_n, Option.toList_none, Option.toList_some, List.nil_append, List.cons_append, kkI, llI, nnI, rrI, jjI, kkJ, llJ, nnJ, rrJ, iiJ, zIIs, zJJs, nEF, nET, and_false, false_and, jmin, jmax, catS_n, catS_i, catS_r, catS_l, Nat.reduceLeDiff, j1eq1, n21, jt0, jt1, Bool.false_eq_true, Classical.not_not, true_or, or_true, false_or, or_false, true_imp_iff, false_imp_iff, not_true_eq_false, not_false_eq_true, jif0, jif1, jifb, ltT, ltF, leT, leF, eqT, eqF, jlt, jle, jeq, jlt0, jle0, jeq0, jge0, jgt0, jinB, jnat, clt, cle, ceq, cgt, cge, lI_add, lI_sub, lI_mul, jadd, jsub, jmul, jneg, jtol, b010, b011, pv_2t, Int.toNat_natCast, Option.some.injEq, exists_eq_left', if_true, if_false]
      refine l3 r v hsv (by omega) (nm - s) s f g (by omega) (Nat.le_refl _) fg hI hi (fun u a b c => absurd b (by omega)) fun f' g' o k1 k2 k3 k4 k5 => ?_
      refine vs_ok 2 ?_
      rw [show ((gRes 229).drop 72).take 2 = [.iinc 4 1, .goto 31] from rfl]
      simp (disch := omega) only [vs_goto, vs_iinc4n, vs_iinc4i, vs_iinc4r, vs_iinc4l, vs_nil, gv_0, gv_1, gv_2, gv_3, pv_0, pv_1, va_rf_s, Nat.reduceDiv, Nat.reduceMod, Nat.reduceAdd, Nat.reduceMul, Int.reduceToNat, true_and, and_true, and_self, cP_eq, cP_ne, cP_lt, cP_ge, cP_gt, cP_le, eL_i, eL_l, eL_r, eL_n, Option.toList_none, Option.toList_some, List.nil_append, List.cons_append, kkI, llI, nnI, rrI, jjI, kkJ, llJ, nnJ, rrJ, iiJ, zIIs, zJJs, nEF, nET, and_false, false_and, jmin, jmax, catS_n, catS_i, catS_r, catS_l, Nat.reduceLeDiff, j1eq1, n21, jt0, jt1, Bool.false_eq_true, Classical.not_not, true_or, or_true, false_or, or_false, true_imp_iff, false_imp_iff, not_true_eq_false, not_false_eq_true, jif0, jif1, jifb, ltT, ltF, leT, leF, eqT, eqF, jlt, jle, jeq, jlt0, jle0, jeq0, jge0, jgt0, jinB, jnat, clt, cle, ceq, cgt, cge, lI_add, lI_sub, lI_mul, jadd, jsub, jmul, jneg, jtol, b010, b011, pv_2t, Int.toNat_natCast, Option.some.injEq, exists_eq_left', if_true, if_false]
      refine ih (v + 1) f' g' _ (by omega) (by omega) k1 k2 k3 (fun u k a b c => Nat.le_trans (k5 u) (h1 u k a b c)) (fun u k a b c => ?_) K
      by_cases z : u = v
      · rw [z] at c ⊢
        match k, c with
        | 0, c =>
          have : v = s := c
          omega
        | k + 1, c =>
          obtain ⟨-, w, t, rw'⟩ := c
          obtain ⟨x, y⟩ := rch_lt hs rw'
          have a1 := k4 w y x t
          have a2 := h1 w k x (by omega) rw'
          have a3 := k5 w
          omega
      · exact Nat.le_trans (k5 u) (h2 u k (by omega) b c)
  have l1 : ∀ (j r : Nat) (f : Nat → Nat) (g : Hp) (o4 o5 : Option Value), j + r = nm → fi (fun q => q = m + 15) h g → (∀ v, v < nm → zI g (m + 15) v = iI (f v : Nat)) → (∀ u, u < nm → f u ≤ 100 ∧ (f u < 100 → rch bt nm s (f u) u)) → (∀ u k, u < nm → k ≤ r → rch bt nm s k u → f u ≤ k) → PW d 229 24 [some (.ref m), some (.int (iI s)), some (.int (iI nm)), some (.int (iI r)), o4, o5] [] g Q := by
    intro j
    induction j with
    | zero =>
      intro r f g o4 o5 hr fg hI hi h1
      have e : r = nm := by omega
      subst e
      refine vs_ok 3 ?_
      rw [show ((gRes 229).drop 24).take 3 = [.iload 3, .iload 2, .if_icmp .ge 76] from rfl]
      simp (disch := omega) only [vs_if_icmp, vs_iload2, vs_iload3, vs_nil, gv_0, gv_1, gv_2, gv_3, pv_0, pv_1, va_rf_s, Nat.reduceDiv, Nat.reduceMod, Nat.reduceAdd, Nat.reduceMul, Int.reduceToNat, true_and, and_true, and_self, cP_eq, cP_ne, cP_lt, cP_ge, cP_gt, cP_le, eL_i, eL_l, eL_r, eL_n, Option.toList_none, Option.toList_some, List.nil_append, List.cons_append, kkI, llI, nnI, rrI, jjI, kkJ, llJ, nnJ, rrJ, iiJ, zIIs, zJJs, nEF, nET, and_false, false_and, jmin, jmax, catS_n, catS_i, catS_r, catS_l, Nat.reduceLeDiff, j1eq1, n21, jt0, jt1, Bool.false_eq_true, Classical.not_not, true_or, or_true, false_or, or_false, true_imp_iff, false_imp_iff, not_true_eq_false, not_false_eq_true, jif0, jif1, jifb, ltT, ltF, leT, leF, eqT, eqF, jlt, jle, jeq, jlt0, jle0, jeq0, jge0, jgt0, jinB, jnat, clt, cle, ceq, cgt, cge, lI_add, lI_sub, lI_mul, jadd, jsub, jmul, jneg, jtol, b010, b011, pv_2t, Int.toNat_natCast, Option.some.injEq, exists_eq_left', if_true, if_false]
      refine vs_ok 6 ?_
      rw [show ((gRes 229).drop 76).take 6 = [.iconst 100, .istore 3, .iload 1, .iconst 1, .iadd, .istore 4] from rfl]
      simp (disch := omega) only [vs_iadd, vs_iconst, vs_iload1, vs_istore3n, vs_istore3i, vs_istore3r, vs_istore3l, vs_istore4n, vs_istore4i, vs_istore4r, vs_istore4l, vs_nil, gv_0, gv_1, gv_2, gv_3, pv_0, pv_1, va_rf_s, Nat.reduceDiv, Nat.reduceMod, Nat.reduceAdd, Nat.reduceMul, Int.reduceToNat, true_and, and_true, and_self, cP_eq, cP_ne, cP_lt, cP_ge, cP_gt, cP_le, eL_i, eL_l, eL_r, eL_n, Option.toList_none, Option.toList_some, List.nil_append, List.cons_append, kkI, llI, nnI, rrI, jjI, kkJ, llJ, nnJ, rrJ, iiJ, zIIs, zJJs, nEF, nET, and_false, false_and, jmin, jmax, catS_n, catS_i, catS_r, catS_l, Nat.reduceLeDiff, j1eq1, n21, jt0, jt1, Bool.false_eq_true, Classical.not_not, true_or, or_true, false_or, or_false, true_imp_iff, false_imp_iff, not_true_eq_false, not_false_eq_true, jif0, jif1, jifb, ltT, ltF, leT, leF, eqT, eqF, jlt, jle, jeq, jlt0, jle0, jeq0, jge0, jgt0, jinB, jnat, clt, cle, ceq, cgt, cge, lI_add, lI_sub, lI_mul, jadd, jsub, jmul, jneg, jtol, b010, b011, pv_2t, Int.toNat_natCast, Option.some.injEq, exists_eq_left', if_true, if_false]
      exact l4 f g fg hI ⟨hi, h1⟩ (r - (s + 1)) (s + 1) 100 _ (by omega) (by omega) (Nat.le_refl _) (fun u a b c => absurd a (by omega)) fun z => absurd z (by omega)
    | succ j ih =>
      intro r f g o4 o5 hr fg hI hi h1
      refine vs_ok 3 ?_
      rw [show ((gRes 229).drop 24).take 3 = [.iload 3, .iload 2, .if_icmp .ge 76] from rfl]
      simp (disch := omega) only [vs_if_icmp, vs_iload2, vs_iload3, vs_nil, gv_0, gv_1, gv_2, gv_3, pv_0, pv_1, va_rf_s, Nat.reduceDiv, Nat.reduceMod, Nat.reduceAdd, Nat.reduceMul, Int.reduceToNat, true_and, and_true, and_self, cP_eq, cP_ne, cP_lt, cP_ge, cP_gt, cP_le, eL_i, eL_l, eL_r, eL_n, Option.toList_none, Option.toList_some, List.nil_append, List.cons_append, kkI, llI, nnI, rrI, jjI, kkJ, llJ, nnJ, rrJ, iiJ, zIIs, zJJs, nEF, nET, and_false, false_and, jmin, jmax, catS_n, catS_i, catS_r, catS_l, Nat.reduceLeDiff, j1eq1, n21, jt0, jt1, Bool.false_eq_true, Classical.not_not, true_or, or_true, false_or, or_false, true_imp_iff, false_imp_iff, not_true_eq_false, not_false_eq_true, jif0, jif1, jifb, ltT, ltF, leT, leF, eqT, eqF, jlt, jle, jeq, jlt0, jle0, jeq0, jge0, jgt0, jinB, jnat, clt, cle, ceq, cgt, cge, lI_add, lI_sub, lI_mul, jadd, jsub, jmul, jneg, jtol, b010, b011, pv_2t, Int.toNat_natCast, Option.some.injEq, exists_eq_left', if_true, if_false]
      refine vs_ok 4 ?_
      rw [show ((gRes 229).drop 27).take 4 = [.iload 1, .iconst 1, .iadd, .istore 4] from rfl]
      simp (disch := omega) only [vs_iadd, vs_iconst, vs_iload1, vs_istore4n, vs_istore4i, vs_istore4r, vs_istore4l, vs_nil, gv_0, gv_1, gv_2, gv_3, pv_0, pv_1, va_rf_s, Nat.reduceDiv, Nat.reduceMod, Nat.reduceAdd, Nat.reduceMul, Int.reduceToNat, true_and, and_true, and_self, cP_eq, cP_ne, cP_lt, cP_ge, cP_gt, cP_le, eL_i, eL_l, eL_r, eL_n, Option.toList_none, Option.toList_some, List.nil_append, List.cons_append, kkI, llI, nnI, rrI, jjI, kkJ, llJ, nnJ, rrJ, iiJ, zIIs, zJJs, nEF, nET, and_false, false_and, jmin, jmax, catS_n, catS_i, catS_r, catS_l, Nat.reduceLeDiff, j1eq1, n21, jt0, jt1, Bool.false_eq_true, Classical.not_not, true_or, or_true, false_or, or_false, true_imp_iff, false_imp_iff, not_true_eq_false, not_false_eq_true, jif0, jif1, jifb, ltT, ltF, leT, leF, eqT, eqF, jlt, jle, jeq, jlt0, jle0, jeq0, jge0, jgt0, jinB, jnat, clt, cle, ceq, cgt, cge, lI_add, lI_sub, lI_mul, jadd, jsub, jmul, jneg, jtol, b010, b011, pv_2t, Int.toNat_natCast, Option.some.injEq, exists_eq_left', if_true, if_false]
      refine l2 r (by omega) (nm - (s + 1)) (s + 1) f g _ (by omega) (by omega) fg hI hi h1 (fun u k a b c => ?_) fun f' g' o4 o5 k1 k2 k3 k4 => ?_
      · obtain ⟨x, y⟩ := rch_lt hs c
        have us : u = s := by omega
        have := h1 u 0 x (by omega) us
        omega
      · refine vs_ok 2 ?_
        rw [show ((gRes 229).drop 74).take 2 = [.iinc 3 1, .goto 24] from rfl]
        simp (disch := omega) only [vs_goto, vs_iinc3n, vs_iinc3i, vs_iinc3r, vs_iinc3l, vs_nil, gv_0, gv_1, gv_2, gv_3, pv_0, pv_1, va_rf_s, Nat.reduceDiv, Nat.reduceMod, Nat.reduceAdd, Nat.reduceMul, Int.reduceToNat, true_and, and_true, and_self, cP_eq, cP_ne, cP_lt, cP_ge, cP_gt, cP_le, eL_i, eL_l, eL_r, eL_n, Option.toList_none, Option.toList_some, List.nil_append, List.cons_append, kkI, llI, nnI, rrI, jjI, kkJ, llJ, nnJ, rrJ, iiJ, zIIs, zJJs, nEF, nET, and_false, false_and, jmin, jmax, catS_n, catS_i, catS_r, catS_l, Nat.reduceLeDiff, j1eq1, n21, jt0, jt1, Bool.false_eq_true, Classical.not_not, true_or, or_true, false_or, or_false, true_imp_iff, false_imp_iff, not_true_eq_false, not_false_eq_true, jif0, jif1, jifb, ltT, ltF, leT, leF, eqT, eqF, jlt, jle, jeq, jlt0, jle0, jeq0, jge0, jgt0, jinB, jnat, clt, cle, ceq, cgt, cge, lI_add, lI_sub, lI_mul, jadd, jsub, jmul, jneg, jtol, b010, b011, pv_2t, Int.toNat_natCast, Option.some.injEq, exists_eq_left', if_true, if_false]
        exact ih (r + 1) f' g' _ _ (by omega) k1 k2 k3 k4
  have l0 : ∀ (j v : Nat) (g : Hp), j + v = nm → fi (fun q => q = m + 15) h g → (∀ u, u < v → zI g (m + 15) u = iI ((if u = s then 0 else 100 : Nat) : Int)) → PW d 229 7 [some (.ref m), some (.int (iI s)), some (.int (iI nm)), some (.int (iI v)), none, none] [] g Q := by
    intro j
    induction j with
    | zero =>
      intro v g hv fg hI
      have e : v = nm := by omega
      subst e
      refine vs_ok 3 ?_
      rw [show ((gRes 229).drop 7).take 3 = [.iload 3, .iload 2, .if_icmp .ge 22] from rfl]
      simp (disch := omega) only [vs_if_icmp, vs_iload2, vs_iload3, vs_nil, gv_0, gv_1, gv_2, gv_3, pv_0, pv_1, va_rf_s, Nat.reduceDiv, Nat.reduceMod, Nat.reduceAdd, Nat.reduceMul, Int.reduceToNat, true_and, and_true, and_self, cP_eq, cP_ne, cP_lt, cP_ge, cP_gt, cP_le, eL_i, eL_l, eL_r, eL_n, Option.toList_none, Option.toList_some, List.nil_append, List.cons_append, kkI, llI, nnI, rrI, jjI, kkJ, llJ, nnJ, rrJ, iiJ, zIIs, zJJs, nEF, nET, and_false, false_and, jmin, jmax, catS_n, catS_i, catS_r, catS_l, Nat.reduceLeDiff, j1eq1, n21, jt0, jt1, Bool.false_eq_true, Classical.not_not, true_or, or_true, false_or, or_false, true_imp_iff, false_imp_iff, not_true_eq_false, not_false_eq_true, jif0, jif1, jifb, ltT, ltF, leT, leF, eqT, eqF, jlt, jle, jeq, jlt0, jle0, jeq0, jge0, jgt0, jinB, jnat, clt, cle, ceq, cgt, cge, lI_add, lI_sub, lI_mul, jadd, jsub, jmul, jneg, jtol, b010, b011, pv_2t, Int.toNat_natCast, Option.some.injEq, exists_eq_left', if_true, if_false]
      refine vs_ok 2 ?_
      rw [show ((gRes 229).drop 22).take 2 = [.iconst 0, .istore 3] from rfl]
      simp (disch := omega) only [vs_iconst, vs_istore3n, vs_istore3i, vs_istore3r, vs_istore3l, vs_nil, gv_0, gv_1, gv_2, gv_3, pv_0, pv_1, va_rf_s, Nat.reduceDiv, Nat.reduceMod, Nat.reduceAdd, Nat.reduceMul, Int.reduceToNat, true_and, and_true, and_self, cP_eq, cP_ne, cP_lt, cP_ge, cP_gt, cP_le, eL_i, eL_l, eL_r, eL_n, Option.toList_none, Option.toList_some, List.nil_append, List.cons_append, kkI, llI, nnI, rrI, jjI, kkJ, llJ, nnJ, rrJ, iiJ, zIIs, zJJs, nEF, nET, and_false, false_and, jmin, jmax, catS_n, catS_i, catS_r, catS_l, Nat.reduceLeDiff, j1eq1, n21, jt0, jt1, Bool.false_eq_true, Classical.not_not, true_or, or_true, false_or, or_false, true_imp_iff, false_imp_iff, not_true_eq_false, not_false_eq_true, jif0, jif1, jifb, ltT, ltF, leT, leF, eqT, eqF, jlt, jle, jeq, jlt0, jle0, jeq0, jge0, jgt0, jinB, jnat, clt, cle, ceq, cgt, cge, lI_add, lI_sub, lI_mul, jadd, jsub, jmul, jneg, jtol, b010, b011, pv_2t, Int.toNat_natCast, Option.some.injEq, exists_eq_left', if_true, if_false]
      refine l1 v 0 (fun u => if u = s then 0 else 100) g _ _ (by omega) fg hI (fun u hu => ?_) fun u k a b c => ?_
      · try dsimp only
        by_cases z : u = s
        · rw [if_pos z]
          exact ⟨by omega, fun _ => z⟩
        · rw [if_neg z]
          exact ⟨by omega, fun y => absurd y (by omega)⟩
      · have k0 : k = 0 := by omega
        rw [k0] at c
        have : u = s := c
        try dsimp only
        rw [if_pos this]
        omega
    | succ j ih =>
      intro v g hv fg hI
      obtain ⟨M1, A1, A8, n1⟩ := dec g fg
      have nx : ∀ z : Nat, (z = if v = s then 0 else 100) → ∀ u, u < v + 1 → zI (zsI g (m + 15) v (iI (z : Nat))) (m + 15) u = iI ((if u = s then 0 else 100 : Nat) : Int) := fun z hz u hu => by
        rw [zI_s]
        by_cases y : u = v
        · rw [if_pos ⟨rfl, y⟩, y, hz]
        · rw [if_neg fun q => y q.2]
          exact hI u (by omega)
      by_cases c : v = s
      · refine vs_ok 3 ?_
        rw [show ((gRes 229).drop 7).take 3 = [.iload 3, .iload 2, .if_icmp .ge 22] from rfl]
        simp (disch := omega) only [vs_if_icmp, vs_iload2, vs_iload3, vs_nil, gv_0, gv_1, gv_2, gv_3, pv_0, pv_1, va_rf_s, Nat.reduceDiv, Nat.reduceMod, Nat.reduceAdd, Nat.reduceMul, Int.reduceToNat, true_and, and_true, and_self, cP_eq, cP_ne, cP_lt, cP_ge, cP_gt, cP_le, eL_i, eL_l, eL_r, eL_n, Option.toList_none, Option.toList_some, List.nil_append, List.cons_append, kkI, llI, nnI, rrI, jjI, kkJ, llJ, nnJ, rrJ, iiJ, zIIs, zJJs, nEF, nET, and_false, false_and, jmin, jmax, catS_n, catS_i, catS_r, catS_l, Nat.reduceLeDiff, j1eq1, n21, jt0, jt1, Bool.false_eq_true, Classical.not_not, true_or, or_true, false_or, or_false, true_imp_iff, false_imp_iff, not_true_eq_false, not_false_eq_true, jif0, jif1, jifb, ltT, ltF, leT, leF, eqT, eqF, jlt, jle, jeq, jlt0, jle0, jeq0, jge0, jgt0, jinB, jnat, clt, cle, ceq, cgt, cge, lI_add, lI_sub, lI_mul, jadd, jsub, jmul, jneg, jtol, b010, b011, pv_2t, Int.toNat_natCast, Option.some.injEq, exists_eq_left', if_true, if_false]
        refine vs_ok 6 ?_
        rw [show ((gRes 229).drop 10).take 6 = [.aload 0, .getfield 12262, .iload 3, .iload 3, .iload 1, .if_icmp .ne 18] from rfl]
        simp (disch := omega) only [vs_if_icmp, vs_getfield, vs_aload0, vs_iload1, vs_iload3, vs_nil, gv_0, gv_1, gv_2, gv_3, pv_0, pv_1, va_rf_s, Nat.reduceDiv, Nat.reduceMod, Nat.reduceAdd, Nat.reduceMul, Int.reduceToNat, true_and, and_true, and_self, cP_eq, cP_ne, cP_lt, cP_ge, cP_gt, cP_le, eL_i, eL_l, eL_r, eL_n, Option.toList_none, Option.toList_some, List.nil_append, List.cons_append, kkI, llI, nnI, rrI, jjI, kkJ, llJ, nnJ, rrJ, iiJ, zIIs, zJJs, nEF, nET, and_false, false_and, jmin, jmax, catS_n, catS_i, catS_r, catS_l, Nat.reduceLeDiff, j1eq1, n21, jt0, jt1, Bool.false_eq_true, Classical.not_not, true_or, or_true, false_or, or_false, true_imp_iff, false_imp_iff, not_true_eq_false, not_false_eq_true, jif0, jif1, jifb, ltT, ltF, leT, leF, eqT, eqF, jlt, jle, jeq, jlt0, jle0, jeq0, jge0, jgt0, jinB, jnat, clt, cle, ceq, cgt, cge, lI_add, lI_sub, lI_mul, jadd, jsub, jmul, jneg, jtol, b010, b011, pv_2t, Int.toNat_natCast, Option.some.injEq, exists_eq_left', if_true, if_false, M1, A1]
        refine vs_ok 2 ?_
        rw [show ((gRes 229).drop 16).take 2 = [.iconst 0, .goto 19] from rfl]
        simp (disch := omega) only [vs_iconst, vs_goto, vs_nil, gv_0, gv_1, gv_2, gv_3, pv_0, pv_1, va_rf_s, Nat.reduceDiv, Nat.reduceMod, Nat.reduceAdd, Nat.reduceMul, Int.reduceToNat, true_and, and_true, and_self, cP_eq, cP_ne, cP_lt, cP_ge, cP_gt, cP_le, eL_i, eL_l, eL_r, eL_n, Option.toList_none, Option.toList_some, List.nil_append, List.cons_append, kkI, llI, nnI, rrI, jjI, kkJ, llJ, nnJ, rrJ, iiJ, zIIs, zJJs, nEF, nET, and_false, false_and, jmin, jmax, catS_n, catS_i, catS_r, catS_l, Nat.reduceLeDiff, j1eq1, n21, jt0, jt1, Bool.false_eq_true, Classical.not_not, true_or, or_true, false_or, or_false, true_imp_iff, false_imp_iff, not_true_eq_false, not_false_eq_true, jif0, jif1, jifb, ltT, ltF, leT, leF, eqT, eqF, jlt, jle, jeq, jlt0, jle0, jeq0, jge0, jgt0, jinB, jnat, clt, cle, ceq, cgt, cge, lI_add, lI_sub, lI_mul, jadd, jsub, jmul, jneg, jtol, b010, b011, pv_2t, Int.toNat_natCast, Option.some.injEq, exists_eq_left', if_true, if_false]
        refine vs_ok 3 ?_
        rw [show ((gRes 229).drop 19).take 3 = [.iastore, .iinc 3 1, .goto 7] from rfl]
        simp (disch := omega) only [vs_goto, vs_iastore, vs_iinc3n, vs_iinc3i, vs_iinc3r, vs_iinc3l, vs_nil, gv_0, gv_1, gv_2, gv_3, pv_0, pv_1, va_rf_s, Nat.reduceDiv, Nat.reduceMod, Nat.reduceAdd, Nat.reduceMul, Int.reduceToNat, true_and, and_true, and_self, cP_eq, cP_ne, cP_lt, cP_ge, cP_gt, cP_le, eL_i, eL_l, eL_r, eL_n, Option.toList_none, Option.toList_some, List.nil_append, List.cons_append, kkI, llI, nnI, rrI, jjI, kkJ, llJ, nnJ, rrJ, iiJ, zIIs, zJJs, nEF, nET, and_false, false_and, jmin, jmax, catS_n, catS_i, catS_r, catS_l, Nat.reduceLeDiff, j1eq1, n21, jt0, jt1, Bool.false_eq_true, Classical.not_not, true_or, or_true, false_or, or_false, true_imp_iff, false_imp_iff, not_true_eq_false, not_false_eq_true, jif0, jif1, jifb, ltT, ltF, leT, leF, eqT, eqF, jlt, jle, jeq, jlt0, jle0, jeq0, jge0, jgt0, jinB, jnat, clt, cle, ceq, cgt, cge, lI_add, lI_sub, lI_mul, jadd, jsub, jmul, jneg, jtol, b010, b011, pv_2t, Int.toNat_natCast, Option.some.injEq, exists_eq_left', if_true, if_false, A1]
        exact ih (v + 1) _ (by omega) (fg.I rfl) (nx 0 (by rw [if_pos c]))
      · refine vs_ok 3 ?_
        rw [show ((gRes 229).drop 7).take 3 = [.iload 3, .iload 2, .if_icmp .ge 22] from rfl]
        simp (disch := omega) only [vs_if_icmp, vs_iload2, vs_iload3, vs_nil, gv_0, gv_1, gv_2, gv_3, pv_0, pv_1, va_rf_s, Nat.reduceDiv, Nat.reduceMod, Nat.reduceAdd, Nat.reduceMul, Int.reduceToNat, true_and, and_true, and_self, cP_eq, cP_ne, cP_lt, cP_ge, cP_gt, cP_le, eL_i, eL_l, eL_r, eL_n, Option.toList_none, Option.toList_some, List.nil_append, List.cons_append, kkI, llI, nnI, rrI, jjI, kkJ, llJ, nnJ, rrJ, iiJ, zIIs, zJJs, nEF, nET, and_false, false_and, jmin, jmax, catS_n, catS_i, catS_r, catS_l, Nat.reduceLeDiff, j1eq1, n21, jt0, jt1, Bool.false_eq_true, Classical.not_not, true_or, or_true, false_or, or_false, true_imp_iff, false_imp_iff, not_true_eq_false, not_false_eq_true, jif0, jif1, jifb, ltT, ltF, leT, leF, eqT, eqF, jlt, jle, jeq, jlt0, jle0, jeq0, jge0, jgt0, jinB, jnat, clt, cle, ceq, cgt, cge, lI_add, lI_sub, lI_mul, jadd, jsub, jmul, jneg, jtol, b010, b011, pv_2t, Int.toNat_natCast, Option.some.injEq, exists_eq_left', if_true, if_false]
        refine vs_ok 6 ?_
        rw [show ((gRes 229).drop 10).take 6 = [.aload 0, .getfield 12262, .iload 3, .iload 3, .iload 1, .if_icmp .ne 18] from rfl]
        simp (disch := omega) only [vs_if_icmp, vs_getfield, vs_aload0, vs_iload1, vs_iload3, vs_nil, gv_0, gv_1, gv_2, gv_3, pv_0, pv_1, va_rf_s, Nat.reduceDiv, Nat.reduceMod, Nat.reduceAdd, Nat.reduceMul, Int.reduceToNat, true_and, and_true, and_self, cP_eq, cP_ne, cP_lt, cP_ge, cP_gt, cP_le, eL_i, eL_l, eL_r, eL_n, Option.toList_none, Option.toList_some, List.nil_append, List.cons_append, kkI, llI, nnI, rrI, jjI, kkJ, llJ, nnJ, rrJ, iiJ, zIIs, zJJs, nEF, nET, and_false, false_and, jmin, jmax, catS_n, catS_i, catS_r, catS_l, Nat.reduceLeDiff, j1eq1, n21, jt0, jt1, Bool.false_eq_true, Classical.not_not, true_or, or_true, false_or, or_false, true_imp_iff, false_imp_iff, not_true_eq_false, not_false_eq_true, jif0, jif1, jifb, ltT, ltF, leT, leF, eqT, eqF, jlt, jle, jeq, jlt0, jle0, jeq0, jge0, jgt0, jinB, jnat, clt, cle, ceq, cgt, cge, lI_add, lI_sub, lI_mul, jadd, jsub, jmul, jneg, jtol, b010, b011, pv_2t, Int.toNat_natCast, Option.some.injEq, exists_eq_left', if_true, if_false, M1, A1]
        refine vs_ok 1 ?_
        rw [show ((gRes 229).drop 18).take 1 = [.iconst 100] from rfl]
        simp (disch := omega) only [vs_iconst, vs_nil, gv_0, gv_1, gv_2, gv_3, pv_0, pv_1, va_rf_s, Nat.reduceDiv, Nat.reduceMod, Nat.reduceAdd, Nat.reduceMul, Int.reduceToNat, true_and, and_true, and_self, cP_eq, cP_ne, cP_lt, cP_ge, cP_gt, cP_le, eL_i, eL_l, eL_r, eL_n, Option.toList_none, Option.toList_some, List.nil_append, List.cons_append, kkI, llI, nnI, rrI, jjI, kkJ, llJ, nnJ, rrJ, iiJ, zIIs, zJJs, nEF, nET, and_false, false_and, jmin, jmax, catS_n, catS_i, catS_r, catS_l, Nat.reduceLeDiff, j1eq1, n21, jt0, jt1, Bool.false_eq_true, Classical.not_not, true_or, or_true, false_or, or_false, true_imp_iff, false_imp_iff, not_true_eq_false, not_false_eq_true, jif0, jif1, jifb, ltT, ltF, leT, leF, eqT, eqF, jlt, jle, jeq, jlt0, jle0, jeq0, jge0, jgt0, jinB, jnat, clt, cle, ceq, cgt, cge, lI_add, lI_sub, lI_mul, jadd, jsub, jmul, jneg, jtol, b010, b011, pv_2t, Int.toNat_natCast, Option.some.injEq, exists_eq_left', if_true, if_false]
        refine vs_ok 3 ?_
        rw [show ((gRes 229).drop 19).take 3 = [.iastore, .iinc 3 1, .goto 7] from rfl]
        simp (disch := omega) only [vs_goto, vs_iastore, vs_iinc3n, vs_iinc3i, vs_iinc3r, vs_iinc3l, vs_nil, gv_0, gv_1, gv_2, gv_3, pv_0, pv_1, va_rf_s, Nat.reduceDiv, Nat.reduceMod, Nat.reduceAdd, Nat.reduceMul, Int.reduceToNat, true_and, and_true, and_self, cP_eq, cP_ne, cP_lt, cP_ge, cP_gt, cP_le, eL_i, eL_l, eL_r, eL_n, Option.toList_none, Option.toList_some, List.nil_append, List.cons_append, kkI, llI, nnI, rrI, jjI, kkJ, llJ, nnJ, rrJ, iiJ, zIIs, zJJs, nEF, nET, and_false, false_and, jmin, jmax, catS_n, catS_i, catS_r, catS_l, Nat.reduceLeDiff, j1eq1, n21, jt0, jt1, Bool.false_eq_true, Classical.not_not, true_or, or_true, false_or, or_false, true_imp_iff, false_imp_iff, not_true_eq_false, not_false_eq_true, jif0, jif1, jifb, ltT, ltF, leT, leF, eqT, eqF, jlt, jle, jeq, jlt0, jle0, jeq0, jge0, jgt0, jinB, jnat, clt, cle, ceq, cgt, cge, lI_add, lI_sub, lI_mul, jadd, jsub, jmul, jneg, jtol, b010, b011, pv_2t, Int.toNat_natCast, Option.some.injEq, exists_eq_left', if_true, if_false, A1]
        exact ih (v + 1) _ (by omega) (fg.I rfl) (nx 100 (by rw [if_neg c]))
  refine vs_ok 7 ?_
  rw [show ((gRes 229).drop 0).take 7 = [.aload 0, .getfield 12112, .iconst 0, .iaload, .istore 2, .iconst 0, .istore 3] from rfl]
  simp (disch := omega) only [vs_iconst, vs_getfield, vs_iaload, vs_aload0, vs_istore2n, vs_istore2i, vs_istore2r, vs_istore2l, vs_istore3n, vs_istore3i, vs_istore3r, vs_istore3l, vs_nil, gv_0, gv_1, gv_2, gv_3, pv_0, pv_1, va_rf_s, Nat.reduceDiv, Nat.reduceMod, Nat.reduceAdd, Nat.reduceMul, Int.reduceToNat, true_and, and_true, and_self, cP_eq, cP_ne, cP_lt, cP_ge, cP_gt, cP_le, eL_i, eL_l, eL_r, eL_n, Option.toList_none, Option.toList_some, List.nil_append, List.cons_append, kkI, llI, nnI, rrI, jjI, kkJ, llJ, nnJ, rrJ, iiJ, zIIs, zJJs, nEF, nET, and_false, false_and, jmin, jmax, catS_n, catS_i, catS_r, catS_l, Nat.reduceLeDiff, j1eq1, n21, jt0, jt1, Bool.false_eq_true, Classical.not_not, true_or, or_true, false_or, or_false, true_imp_iff, false_imp_iff, not_true_eq_false, not_false_eq_true, jif0, jif1, jifb, ltT, ltF, leT, leF, eqT, eqF, jlt, jle, jeq, jlt0, jle0, jeq0, jge0, jgt0, jinB, jnat, clt, cle, ceq, cgt, cge, lI_add, lI_sub, lI_mul, jadd, jsub, jmul, jneg, jtol, b010, b011, pv_2t, Int.toNat_natCast, Option.some.injEq, exists_eq_left', if_true, if_false, M, A, hn]
  exact l0 nm 0 h (by omega) fi.rf fun u hu => absurd hu (by omega)
theorem fB_find {p : Nat → Bool} : ∀ (k i : Nat), (∃ u, i ≤ u ∧ u < i + k ∧ p u = true) → ∃ q, fB p k i = some q
  | 0, i, ⟨u, a, b, _⟩ => absurd b (by omega)
  | k + 1, i, ⟨u, a, b, c⟩ => by
    unfold fB
    by_cases y : p i = true
    · exact ⟨i, if_pos y⟩
    · rw [if_neg y]
      refine fB_find k (i + 1) ⟨u, ?_, by omega, c⟩
      by_cases z : u = i
      · rw [z] at c
        exact absurd c y
      · omega
theorem t_M_ring {d : Nat} {h : Hp} {m nm : Nat} {bt : Nat → Nat} {Q : Nat → Option Value → Hp → Prop} (hm : mO h m) (hn : zI h (m + 7) 0 = iI nm) (hb : nm ≤ 12) (n : mtN h m nm bt) (hp : btP bt nm)
    (hq0 : (rgF bt nm).1 = 0 → ∀ g, fi (fun q => q = m ∨ q = m + 15) h g → (∀ i, i ≠ 0 → zI g m i = zI h m i) → zI g m 0 = iI 0 → Q 0 (some (.int (iI (-1)))) g)
    (hq1 : (rgF bt nm).1 ≠ 0 → ∀ g, fi (fun q => q = m ∨ q = m + 15 ∨ q = m + 16) h g → (∀ i, i ≠ 0 → i ≠ 28 → zI g m i = zI h m i) → zI g m 0 = iI 0 → zI g m 28 = iI (rgF bt nm).1 → (∀ i, i < (rgF bt nm).1 → zI g (m + 16) i = iI (lrF bt (wbF bt nm (rgF bt nm).2).2 nm (rgF bt nm).1 (rgF bt nm).2 i)) → Q 0 (some (.int (iI (rgF bt nm).1))) g) : PR (d + 1) m_M_ring [.ref m] h Q := by
  have M := hm.k
  show PW (d + 1) 230 0 [some (.ref m), none, none, none, none] [] h Q
  refine vs_ok 9 ?_
  rw [show ((gRes 230).drop 0).take 9 = [.aload 0, .iconst 0, .putfield 12000, .iconst 100, .istore 1, .iconst (-1), .istore 2, .iconst 0, .istore 3] from rfl]
  simp (disch := omega) only [vs_iconst, vs_putfield, vs_aload0, vs_istore1n, vs_istore1i, vs_istore1r, vs_istore1l, vs_istore2n, vs_istore2i, vs_istore2r, vs_istore2l, vs_istore3n, vs_istore3i, vs_istore3r, vs_istore3l, vs_nil, gv_0, gv_1, gv_2, gv_3, pv_0, pv_1, va_rf_s, Nat.reduceDiv, Nat.reduceMod, Nat.reduceAdd, Nat.reduceMul, Int.reduceToNat, true_and, and_true, and_self, cP_eq, cP_ne, cP_lt, cP_ge, cP_gt, cP_le, eL_i, eL_l, eL_r, eL_n, Option.toList_none, Option.toList_some, List.nil_append, List.cons_append, kkI, llI, nnI, rrI, jjI, kkJ, llJ, nnJ, rrJ, iiJ, zIIs, zJJs, nEF, nET, and_false, false_and, jmin, jmax, catS_n, catS_i, catS_r, catS_l, Nat.reduceLeDiff, j1eq1, n21, jt0, jt1, Bool.false_eq_true, Classical.not_not, true_or, or_true, false_or, or_false, true_imp_iff, false_imp_iff, not_true_eq_false, not_false_eq_true, jif0, jif1, jifb, ltT, ltF, leT, leF, eqT, eqF, jlt, jle, jeq, jlt0, jle0, jeq0, jge0, jgt0, jinB, jnat, clt, cle, ceq, cgt, cge, lI_add, lI_sub, lI_mul, jadd, jsub, jmul, jneg, jtol, b010, b011, pv_2t, Int.toNat_natCast, Option.some.injEq, exists_eq_left', if_true, if_false, M]
  have z := mt0_s (h := h) (m := m) 0
  have hm0 := hm.fi z.1
  have n0 := n.fi z.1 (by omega)
  have n7 : zI (zsI h m 0 (iI 0)) (m + 7) 0 = iI nm := by rw [zI_s, if_neg (by omega)]; exact hn
  generalize zsI h m 0 (iI 0) = g0 at *
  have e12 : ∀ a b : Nat, (12 : Int) * (a : Int) + (b : Int) = ((12 * a + b : Nat) : Int) := fun a b => by omega
  -- the walk over all NAMES
  have lp : ∀ (j s : Nat) (B : Nat × Nat) (o4 : Option Value) (g : Hp), j + s = nm → fi (fun q => q = m + 15) g0 g → srF bt nm j s B = rgF bt nm → B.1 < 100 → (B.1 ≠ 0 → B.2 < nm) → PW (d + 1) 230 9 [some (.ref m), some (.int (iI (if B.1 = 0 then 100 else (B.1 : Int)))), some (.int (iI (if B.1 = 0 then -1 else (B.2 : Int)))), some (.int (iI s)), o4] [] g Q := by
    intro j
    induction j with
    | zero =>
      intro s B o4 g hs f hB hb1 hb2
      have hg := hm0.fi f
      have Mg := hg.k
      have A7 := hg.nameMany
      have m7 : zI g (m + 7) 0 = iI nm := by rw [f.1.2.2.2.2.2.1 _ (by omega)]; exact n7
      have eB : B = rgF bt nm := hB
      rw [← eB] at hq0 hq1
      have F : fi (fun q => q = m ∨ q = m + 15) h g := (z.1.wk fun q y => Or.inl y).tr (f.wk fun q y => Or.inr y)
      have E : ∀ i, i ≠ 0 → zI g m i = zI h m i := fun i hi => by rw [f.1.2.2.2.2.2.1 m (by omega)]; exact z.2.1 i hi
      have E0 : zI g m 0 = iI 0 := by rw [f.1.2.2.2.2.2.1 m (by omega)]; exact z.2.2
      by_cases c0 : B.1 = 0
      · rw [if_pos c0, if_pos c0]
        refine vs_ok 6 ?_
        rw [show ((gRes 230).drop 9).take 6 = [.iload 3, .aload 0, .getfield 12112, .iconst 0, .iaload, .if_icmp .ge 29] from rfl]
        simp (disch := omega) only [vs_iconst, vs_if_icmp, vs_getfield, vs_iaload, vs_aload0, vs_iload3, vs_nil, gv_0, gv_1, gv_2, gv_3, pv_0, pv_1, va_rf_s, Nat.reduceDiv, Nat.reduceMod, Nat.reduceAdd, Nat.reduceMul, Int.reduceToNat, true_and, and_true, and_self, cP_eq, cP_ne, cP_lt, cP_ge, cP_gt, cP_le, eL_i, eL_l, eL_r, eL_n, Option.toList_none, Option.toList_some, List.nil_append, List.cons_append, kkI, llI, nnI, rrI, jjI, kkJ, llJ, nnJ, rrJ, iiJ, zIIs, zJJs, nEF, nET, and_false, false_and, jmin, jmax, catS_n, catS_i, catS_r, catS_l, Nat.reduceLeDiff, j1eq1, n21, jt0, jt1, Bool.false_eq_true, Classical.not_not, true_or, or_true, false_or, or_false, true_imp_iff, false_imp_iff, not_true_eq_false, not_false_eq_true, jif0, jif1, jifb, ltT, ltF, leT, leF, eqT, eqF, jlt, jle, jeq, jlt0, jle0, jeq0, jge0, jgt0, jinB, jnat, clt, cle, ceq, cgt, cge, lI_add, lI_sub, lI_mul, jadd, jsub, jmul, jneg, jtol, b010, b011, pv_2t, Int.toNat_natCast, Option.some.injEq, exists_eq_left', if_true, if_false, Mg, A7, m7]
        refine vs_ok 2 ?_
        rw [show ((gRes 230).drop 29).take 2 = [.iload 2, .ifCond .ge 33] from rfl]
        simp (disch := omega) only [vs_ifCond, vs_iload2, vs_nil, gv_0, gv_1, gv_2, gv_3, pv_0, pv_1, va_rf_s, Nat.reduceDiv, Nat.reduceMod, Nat.reduceAdd, Nat.reduceMul, Int.reduceToNat, true_and, and_true, and_self, cP_eq, cP_ne, cP_lt, cP_ge, cP_gt, cP_le, eL_i, eL_l, eL_r, eL_n, Option.toList_none, Option.toList_some, List.nil_append, List.cons_append, kkI, llI, nnI, rrI, jjI, kkJ, llJ, nnJ, rrJ, iiJ, zIIs, zJJs, nEF, nET, and_false, false_and, jmin, jmax, catS_n, catS_i, catS_r, catS_l, Nat.reduceLeDiff, j1eq1, n21, jt0, jt1, Bool.false_eq_true, Classical.not_not, true_or, or_true, false_or, or_false, true_imp_iff, false_imp_iff, not_true_eq_false, not_false_eq_true, jif0, jif1, jifb, ltT, ltF, leT, leF, eqT, eqF, jlt, jle, jeq, jlt0, jle0, jeq0, jge0, jgt0, jinB, jnat, clt, cle, ceq, cgt, cge, lI_add, lI_sub, lI_mul, jadd, jsub, jmul, jneg, jtol, b010, b011, pv_2t, Int.toNat_natCast, Option.some.injEq, exists_eq_left', if_true, if_false]
        refine vs_ok 2 ?_
        rw [show ((gRes 230).drop 31).take 2 = [.iconst (-1), .ireturn] from rfl]
        simp (disch := omega) only [vs_iconst, vs_ireturn, vs_nil, gv_0, gv_1, gv_2, gv_3, pv_0, pv_1, va_rf_s, Nat.reduceDiv, Nat.reduceMod, Nat.reduceAdd, Nat.reduceMul, Int.reduceToNat, true_and, and_true, and_self, cP_eq, cP_ne, cP_lt, cP_ge, cP_gt, cP_le, eL_i, eL_l, eL_r, eL_n, Option.toList_none, Option.toList_some, List.nil_append, List.cons_append, kkI, llI, nnI, rrI, jjI, kkJ, llJ, nnJ, rrJ, iiJ, zIIs, zJJs, nEF, nET, and_false, false_and, jmin, jmax, catS_n, catS_i, catS_r, catS_l, Nat.reduceLeDiff, j1eq1, n21, jt0, jt1, Bool.false_eq_true, Classical.not_not, true_or, or_true, false_or, or_false, true_imp_iff, false_imp_iff, not_true_eq_false, not_false_eq_true, jif0, jif1, jifb, ltT, ltF, leT, leF, eqT, eqF, jlt, jle, jeq, jlt0, jle0, jeq0, jge0, jgt0, jinB, jnat, clt, cle, ceq, cgt, cge, lI_add, lI_sub, lI_mul, jadd, jsub, jmul, jneg, jtol, b010, b011, pv_2t, Int.toNat_natCast, Option.some.injEq, exists_eq_left', if_true, if_false, show gRc 230 = 1 from rfl]
        exact hq0 c0 g F E E0
      · rw [if_neg c0, if_neg c0]
        have hB2 := hb2 c0
        have hq1 := hq1 c0
        obtain ⟨len, s0⟩ := B
        try dsimp only at *
        refine vs_ok 6 ?_
        rw [show ((gRes 230).drop 9).take 6 = [.iload 3, .aload 0, .getfield 12112, .iconst 0, .iaload, .if_icmp .ge 29] from rfl]
        simp (disch := omega) only [vs_iconst, vs_if_icmp, vs_getfield, vs_iaload, vs_aload0, vs_iload3, vs_nil, gv_0, gv_1, gv_2, gv_3, pv_0, pv_1, va_rf_s, Nat.reduceDiv, Nat.reduceMod, Nat.reduceAdd, Nat.reduceMul, Int.reduceToNat, true_and, and_true, and_self, cP_eq, cP_ne, cP_lt, cP_ge, cP_gt, cP_le, eL_i, eL_l, eL_r, eL_n, Option.toList_none, Option.toList_some, List.nil_append, List.cons_append, kkI, llI, nnI, rrI, jjI, kkJ, llJ, nnJ, rrJ, iiJ, zIIs, zJJs, nEF, nET, and_false, false_and, jmin, jmax, catS_n, catS_i, catS_r, catS_l, Nat.reduceLeDiff, j1eq1, n21, jt0, jt1, Bool.false_eq_true, Classical.not_not, true_or, or_true, false_or, or_false, true_imp_iff, false_imp_iff, not_true_eq_false, not_false_eq_true, jif0, jif1, jifb, ltT, ltF, leT, leF, eqT, eqF, jlt, jle, jeq, jlt0, jle0, jeq0, jge0, jgt0, jinB, jnat, clt, cle, ceq, cgt, cge, lI_add, lI_sub, lI_mul, jadd, jsub, jmul, jneg, jtol, b010, b011, pv_2t, Int.toNat_natCast, Option.some.injEq, exists_eq_left', if_true, if_false, Mg, A7, m7]
        refine vs_ok 2 ?_
        rw [show ((gRes 230).drop 29).take 2 = [.iload 2, .ifCond .ge 33] from rfl]
        simp (disch := omega) only [vs_ifCond, vs_iload2, vs_nil, gv_0, gv_1, gv_2, gv_3, pv_0, pv_1, va_rf_s, Nat.reduceDiv, Nat.reduceMod, Nat.reduceAdd, Nat.reduceMul, Int.reduceToNat, true_and, and_true, and_self, cP_eq, cP_ne, cP_lt, cP_ge, cP_gt, cP_le, eL_i, eL_l, eL_r, eL_n, Option.toList_none, Option.toList_some, List.nil_append, List.cons_append, kkI, llI, nnI, rrI, jjI, kkJ, llJ, nnJ, rrJ, iiJ, zIIs, zJJs, nEF, nET, and_false, false_and, jmin, jmax, catS_n, catS_i, catS_r, catS_l, Nat.reduceLeDiff, j1eq1, n21, jt0, jt1, Bool.false_eq_true, Classical.not_not, true_or, or_true, false_or, or_false, true_imp_iff, false_imp_iff, not_true_eq_false, not_false_eq_true, jif0, jif1, jifb, ltT, ltF, leT, leF, eqT, eqF, jlt, jle, jeq, jlt0, jle0, jeq0, jge0, jgt0, jinB, jnat, clt, cle, ceq, cgt, cge, lI_add, lI_sub, lI_mul, jadd, jsub, jmul, jneg, jtol, b010, b011, pv_2t, Int.toNat_natCast, Option.some.injEq, exists_eq_left', if_true, if_false]
        refine vs_ok 2 ?_
        rw [show ((gRes 230).drop 33).take 2 = [.aload 0, .iload 2] from rfl]
        simp (disch := omega) only [vs_aload0, vs_iload2, vs_nil, gv_0, gv_1, gv_2, gv_3, pv_0, pv_1, va_rf_s, Nat.reduceDiv, Nat.reduceMod, Nat.reduceAdd, Nat.reduceMul, Int.reduceToNat, true_and, and_true, and_self, cP_eq, cP_ne, cP_lt, cP_ge, cP_gt, cP_le, eL_i, eL_l, eL_r, eL_n, Option.toList_none, Option.toList_some, List.nil_append, List.cons_append, kkI, llI, nnI, rrI, jjI, kkJ, llJ, nnJ, rrJ, iiJ, zIIs, zJJs, nEF, nET, and_false, false_and, jmin, jmax, catS_n, catS_i, catS_r, catS_l, Nat.reduceLeDiff, j1eq1, n21, jt0, jt1, Bool.false_eq_true, Classical.not_not, true_or, or_true, false_or, or_false, true_imp_iff, false_imp_iff, not_true_eq_false, not_false_eq_true, jif0, jif1, jifb, ltT, ltF, leT, leF, eqT, eqF, jlt, jle, jeq, jlt0, jle0, jeq0, jge0, jgt0, jinB, jnat, clt, cle, ceq, cgt, cge, lI_add, lI_sub, lI_mul, jadd, jsub, jmul, jneg, jtol, b010, b011, pv_2t, Int.toNat_natCast, Option.some.injEq, exists_eq_left', if_true, if_false]
        refine PW.iv rfl rfl rfl Mg.1 Mg.2 (le_b rfl) (le_b rfl) ?_
        refine t_M_through hg m7 hb (n0.fi f (by omega)) hp hB2 fun ff b g2 f2 hI tp bp => ⟨rfl, ⟨f2.1.2.2.1, rfl⟩, ?_⟩
        obtain ⟨w1, w2⟩ := wb_eq hB2 hb tp bp
        -- the length is that of the walk from s0
        have wl : (wbF bt nm s0).1 = len := by
          have key : ∀ (j s : Nat) (B : Nat × Nat), srF bt nm j s B = (len, s0) → B = (len, s0) ∨ (wbF bt nm s0).1 = len := by
            intro j
            induction j with
            | zero => intro s B e; exact Or.inl e
            | succ j ih =>
              intro s B e
              rcases ih (s + 1) _ e with y | y
              · by_cases c : 0 < (wbF bt nm s).1 ∧ (B.1 = 0 ∨ (wbF bt nm s).1 < B.1)
                · rw [if_pos c] at y
                  have y1 := congrArg Prod.fst y
                  have y2 := congrArg Prod.snd y
                  try dsimp only at y1 y2
                  rw [y2] at y1
                  exact Or.inr y1
                · rw [if_neg c] at y
                  exact Or.inl y
              · exact Or.inr y
          rcases key nm 0 (0, 0) eB.symm with y | y
          · have := congrArg Prod.fst y
            exact absurd this.symm c0
          · exact y
        have bl : b = len ∧ b ≠ 100 := by
          rw [wl] at w1
          by_cases y : b = 100
          · rw [if_pos y] at w1
            exact absurd w1 c0
          · rw [if_neg y] at w1
            exact ⟨w1.symm, y⟩
        obtain ⟨w3, ⟨v0, vv, tv, fv⟩, w4⟩ := w2 bl.2
        have b12 : len ≤ 12 := by
          have := wbO_le (bt := bt) (nm := nm) (s := s0) (nm - 1) 1 (2 ^ s0) (fun _ => 0) (by omega)
          have : (wbF bt nm s0).1 ≤ nm := this
          omega
        rw [bl.1] at w3 w4 fv
        have hm2 := hg.fi f2
        have M2 := hm2.k
        have A16 := hm2.ringNames
        have F2 := F.tr (f2.wk (T := fun q => q = m ∨ q = m + 15) fun q y => Or.inr y)
        refine vs_ok 11 ?_
        rw [show ((gRes 230).drop 36).take 11 = [.pop, .aload 0, .iload 1, .putfield 12280, .aload 0, .getfield 12272, .iconst 0, .iload 2, .iastore, .iconst 1, .istore 3] from rfl]
        simp (disch := omega) only [vs_iconst, vs_getfield, vs_putfield, vs_iastore, vs_aload0, vs_iload1, vs_iload2, vs_istore3n, vs_istore3i, vs_istore3r, vs_istore3l, vs_nil, gv_0, gv_1, gv_2, gv_3, pv_0, pv_1, va_rf_s, vs_popi, vs_popr, Nat.reduceDiv, Nat.reduceMod, Nat.reduceAdd, Nat.reduceMul, Int.reduceToNat, true_and, and_true, and_self, cP_eq, cP_ne, cP_lt, cP_ge, cP_gt, cP_le, eL_i, eL_l, eL_r, eL_n, Option.toList_none, Option.toList_some, List.nil_append, List.cons_append, kkI, llI, nnI, rrI, jjI, kkJ, llJ, nnJ, rrJ, iiJ, zIIs, zJJs, nEF, nET, and_false, false_and, jmin, jmax, catS_n, catS_i, catS_r, catS_l, Nat.reduceLeDiff, j1eq1, n21, jt0, jt1, Bool.false_eq_true, Classical.not_not, true_or, or_true, false_or, or_false, true_imp_iff, false_imp_iff, not_true_eq_false, not_false_eq_true, jif0, jif1, jifb, ltT, ltF, leT, leF, eqT, eqF, jlt, jle, jeq, jlt0, jle0, jeq0, jge0, jgt0, jinB, jnat, clt, cle, ceq, cgt, cge, lI_add, lI_sub, lI_mul, jadd, jsub, jmul, jneg, jtol, b010, b011, pv_2t, Int.toNat_natCast, Option.some.injEq, exists_eq_left', if_true, if_false, M2, A16]
        have f3 : fi (fun q => q = m ∨ q = m + 16) g2 (zsI (zsI g2 m 28 (iI len)) (m + 16) 0 (iI s0)) := (fi_I (S := fun q => q = m ∨ q = m + 16) (Or.inl rfl)).I (Or.inr rfl)
        have i28 : zI (zsI (zsI g2 m 28 (iI len)) (m + 16) 0 (iI s0)) m 28 = iI len := by rw [zI_s, if_neg (by omega), zI_s, if_pos ⟨rfl, rfl⟩]
        have i160 : zI (zsI (zsI g2 m 28 (iI len)) (m + 16) 0 (iI s0)) (m + 16) 0 = iI s0 := by rw [zI_s, if_pos ⟨rfl, rfl⟩]
        have im : ∀ i, i ≠ 28 → zI (zsI (zsI g2 m 28 (iI len)) (m + 16) 0 (iI s0)) m i = zI g2 m i := fun i hi => by rw [zI_s, if_neg (by omega), zI_s, if_neg fun y => hi y.2]
        generalize zsI (zsI g2 m 28 (iI len)) (m + 16) 0 (iI s0) = g3 at *
        have hn2 : mtN g2 m nm bt := (n0.fi f (by omega)).fi f2 (by omega)
        -- the members, one after the other
        have rl : ∀ (j k : Nat) (o4 : Option Value) (g4 : Hp), j + k = len → 1 ≤ k → fi (fun q => q = m + 16) g3 g4 → (∀ i, i < k → zI g4 (m + 16) i = iI (lrF bt (wbF bt nm s0).2 nm len s0 i)) → (k = 1 ∨ ff (lrF bt (wbF bt nm s0).2 nm len s0 (k - 1)) = len - (k - 1)) → PW (d + 1) 230 47 [some (.ref m), some (.int (iI len)), some (.int (iI s0)), some (.int (iI k)), o4] [] g4 Q := by
          intro j
          induction j with
          | zero =>
            intro k o4 g4 hk hk1 f4 hR hD
            have e : k = len := by omega
            subst e
            refine vs_ok 3 ?_
            rw [show ((gRes 230).drop 47).take 3 = [.iload 3, .iload 1, .if_icmp .ge 86] from rfl]
            simp (disch := omega) only [vs_if_icmp, vs_iload1, vs_iload3, vs_nil, gv_0, gv_1, gv_2, gv_3, pv_0, pv_1, va_rf_s, Nat.reduceDiv, Nat.reduceMod, Nat.reduceAdd, Nat.reduceMul, Int.reduceToNat, true_and, and_true, and_self, cP_eq, cP_ne, cP_lt, cP_ge, cP_gt, cP_le, eL_i, eL_l, eL_r, eL_n, Option.toList_none, Option.toList_some, List.nil_append, List.cons_append, kkI, llI, nnI, rrI, jjI, kkJ, llJ, nnJ, rrJ, iiJ, zIIs, zJJs, nEF, nET, and_false, false_and, jmin, jmax, catS_n, catS_i, catS_r, catS_l, Nat.reduceLeDiff, j1eq1, n21, jt0, jt1, Bool.false_eq_true, Classical.not_not, true_or, or_true, false_or, or_false, true_imp_iff, false_imp_iff, not_true_eq_false, not_false_eq_true, jif0, jif1, jifb, ltT, ltF, leT, leF, eqT, eqF, jlt, jle, jeq, jlt0, jle0, jeq0, jge0, jgt0, jinB, jnat, clt, cle, ceq, cgt, cge, lI_add, lI_sub, lI_mul, jadd, jsub, jmul, jneg, jtol, b010, b011, pv_2t, Int.toNat_natCast, Option.some.injEq, exists_eq_left', if_true, if_false]
            refine vs_ok 2 ?_
            rw [show ((gRes 230).drop 86).take 2 = [.iload 1, .ireturn] from rfl]
            simp (disch := omega) only [vs_ireturn, vs_iload1, vs_nil, gv_0, gv_1, gv_2, gv_3, pv_0, pv_1, va_rf_s, Nat.reduceDiv, Nat.reduceMod, Nat.reduceAdd, Nat.reduceMul, Int.reduceToNat, true_and, and_true, and_self, cP_eq, cP_ne, cP_lt, cP_ge, cP_gt, cP_le, eL_i, eL_l, eL_r, eL_n, Option.toList_none, Option.toList_some, List.nil_append, List.cons_append, kkI, llI, nnI, rrI, jjI, kkJ, llJ, nnJ, rrJ, iiJ, zIIs, zJJs, nEF, nET, and_false, false_and, jmin, jmax, catS_n, catS_i, catS_r, catS_l, Nat.reduceLeDiff, j1eq1, n21, jt0, jt1, Bool.false_eq_true, Classical.not_not, true_or, or_true, false_or, or_false, true_imp_iff, false_imp_iff, not_true_eq_false, not_false_eq_true, jif0, jif1, jifb, ltT, ltF, leT, leF, eqT, eqF, jlt, jle, jeq, jlt0, jle0, jeq0, jge0, jgt0, jinB, jnat, clt, cle, ceq, cgt, cge, lI_add, lI_sub, lI_mul, jadd, jsub, jmul, jneg, jtol, b010, b011, pv_2t, Int.toNat_natCast, Option.some.injEq, exists_eq_left', if_true, if_false, show gRc 230 = 1 from rfl]
            refine hq1 g4 ((F2.wk fun q y => by omega).tr ((f3.wk fun q y => by omega).tr (f4.wk fun q y => by omega))) (fun i a c => ?_) ?_ ?_ hR
            · rw [f4.1.2.2.2.2.2.1 m (by omega), im i c, f2.1.2.2.2.2.2.1 m (by omega)]
              exact E i a
            · rw [f4.1.2.2.2.2.2.1 m (by omega), im 0 (by omega), f2.1.2.2.2.2.2.1 m (by omega)]
              exact E0
            · rw [f4.1.2.2.2.2.2.1 m (by omega)]
              exact i28
          | succ j ih =>
            intro k o4 g4 hk hk1 f4 hR hD
            have st := lrF_lt (bt := bt) (st := (wbF bt nm s0).2) (len := len) hB2 (k - 1)
            have rk := hR (k - 1) (by omega)
            have es : lrF bt (wbF bt nm s0).2 nm len s0 k = (fB (faP bt (wbF bt nm s0).2 (lrF bt (wbF bt nm s0).2 nm len s0 (k - 1)) (len - k)) nm 0).getD 0 := by
              obtain ⟨k', rfl⟩ : ∃ k', k = k' + 1 := ⟨k - 1, by omega⟩
              rfl
            generalize lrF bt (wbF bt nm s0).2 nm len s0 (k - 1) = at0 at *
            -- the class's way to find it, in the Model's words
            have pe : ∀ v, v < nm → (faP bt (wbF bt nm s0).2 at0 (len - k) v = true ↔ (bt at0).testBit v = true ∧ ff v = len - k) := fun v hv => by
              show ((bt at0).testBit v && (wbF bt nm s0).2 v == len - k) = true ↔ _
              rw [Bool.and_eq_true, beq_iff_eq, w4 v hv (len - k) (by omega) (by omega)]
            have exi : ∃ u, 0 ≤ u ∧ u < 0 + nm ∧ faP bt (wbF bt nm s0).2 at0 (len - k) u = true := by
              by_cases k1 : k = 1
              · have a0 : at0 = s0 := by
                  rw [k1] at rk
                  have r0 : zI g4 (m + 16) 0 = iI s0 := by
                    have := hR 0 (by omega)
                    exact this
                  have e := rk.symm.trans r0
                  have := (iI_eq (x := (at0 : Int)) (y := (s0 : Int)) (by constructor <;> omega) (by constructor <;> omega)).mp e
                  omega
                exact ⟨v0, Nat.zero_le _, by omega, (pe v0 vv.2).mpr ⟨by rw [a0]; exact tv, by omega⟩⟩
              · have fa : ff at0 = len - (k - 1) := by
                  rcases hD with y | y
                  · exact absurd y k1
                  · exact y
                have da := (thP_d hB2 hb tp st (show len - (k - 1) < 100 by omega)).mp fa
                rw [show len - (k - 1) = len - k + 1 by omega] at da
                obtain ⟨w, tw, dw⟩ := dst_p da
                have wl := (rch_lt hB2 dw.1).1
                exact ⟨w, Nat.zero_le _, by omega, (pe w wl).mpr ⟨tw, (thP_d hB2 hb tp wl (by omega)).mpr dw⟩⟩
            obtain ⟨u, hu⟩ := fB_find nm 0 exi
            rw [hu, Option.getD_some] at es
            obtain ⟨-, u1, u2, u3⟩ := fB_some hu
            have ul : u < nm := by omega
            obtain ⟨u4, u5⟩ := (pe u ul).mp u2
            have us : s0 < u := by
              have du := (thP_d hB2 hb tp ul (show len - k < 100 by omega)).mp u5
              obtain ⟨-, y⟩ := rch_lt hB2 du.1
              by_cases e : u = s0
              · have : rch bt nm s0 0 u := e
                exact absurd this (du.2 0 (by omega))
              · omega
            have hm4 := (hm2.fi f3).fi f4
            have M4 := hm4.k
            have N4 := hm4.net
            have F4 := hm4.far
            have R4 := hm4.ringNames
            have n4 : mtN g4 m nm bt := (hn2.fi f3 (by omega)).fi f4 (by omega)
            have I4 : ∀ v, v < nm → zI g4 (m + 15) v = iI (ff v : Nat) := fun v hv => by
              rw [f4.1.2.2.2.2.2.1 _ (by omega), f3.1.2.2.2.2.2.1 _ (by omega)]
              exact hI v hv
            have ke : (k : Int) - 1 = ((k - 1 : Nat) : Int) := by omega
            have wl : ∀ (j v : Nat), j + v = u → s0 < v → PW (d + 1) 230 54 [some (.ref m), some (.int (iI len)), some (.int (iI s0)), some (.int (iI k)), some (.int (iI v))] [] g4 Q := by
              intro j
              induction j with
              | zero =>
                intro v hv hsv
                have e : v = u := by omega
                subst e
                have x := n4 at0 v st ul
                have y := I4 v ul
                have nn : nsg bt at0 v = 1 := by rw [ns1]; exact u4
                refine vs_ok 15 ?_
                rw [show ((gRes 230).drop 54).take 15 = [.aload 0, .getfield 12122, .iconst 12, .aload 0, .getfield 12272, .iload 3, .iconst 1, .isub, .iaload, .imul, .iload 4, .iadd, .iaload, .iconst 1, .if_icmp .ne 77] from rfl]
                simp (disch := omega) only [vs_iadd, vs_isub, vs_imul, vs_iconst, vs_if_icmp, vs_getfield, vs_iaload, vs_aload0, vs_iload3, vs_iload4, vs_nil, gv_0, gv_1, gv_2, gv_3, pv_0, pv_1, va_rf_s, Nat.reduceDiv, Nat.reduceMod, Nat.reduceAdd, Nat.reduceMul, Int.reduceToNat, true_and, and_true, and_self, cP_eq, cP_ne, cP_lt, cP_ge, cP_gt, cP_le, eL_i, eL_l, eL_r, eL_n, Option.toList_none, Option.toList_some, List.nil_append, List.cons_append, kkI, llI, nnI, rrI, jjI, kkJ, llJ, nnJ, rrJ, iiJ, zIIs, zJJs, nEF, nET, and_false, false_and, jmin, jmax, catS_n, catS_i, catS_r, catS_l, Nat.reduceLeDiff, j1eq1, n21, jt0, jt1, Bool.false_eq_true, Classical.not_not, true_or, or_true, false_or, or_false, true_imp_iff, false_imp_iff, not_true_eq_false, not_false_eq_true, jif0, jif1, jifb, ltT, ltF, leT, leF, eqT, eqF, jlt, jle, jeq, jlt0, jle0, jeq0, jge0, jgt0, jinB, jnat, clt, cle, ceq, cgt, cge, lI_add, lI_sub, lI_mul, jadd, jsub, jmul, jneg, jtol, b010, b011, pv_2t, Int.toNat_natCast, Option.some.injEq, exists_eq_left', if_true, if_false, M4, N4, R4, ke, rk, e12, x, nn]
                refine vs_ok 8 ?_
                rw [show ((gRes 230).drop 69).take 8 = [.aload 0, .getfield 12262, .iload 4, .iaload, .iload 1, .iload 3, .isub, .if_icmp .eq 79] from rfl]
                simp (disch := omega) only [vs_isub, vs_if_icmp, vs_getfield, vs_iaload, vs_aload0, vs_iload1, vs_iload3, vs_iload4, vs_nil, gv_0, gv_1, gv_2, gv_3, pv_0, pv_1, va_rf_s, Nat.reduceDiv, Nat.reduceMod, Nat.reduceAdd, Nat.reduceMul, Int.reduceToNat, true_and, and_true, and_self, cP_eq, cP_ne, cP_lt, cP_ge, cP_gt, cP_le, eL_i, eL_l, eL_r, eL_n, Option.toList_none, Option.toList_some, List.nil_append, List.cons_append, kkI, llI, nnI, rrI, jjI, kkJ, llJ, nnJ, rrJ, iiJ, zIIs, zJJs, nEF, nET, and_false, false_and, jmin, jmax, catS_n, catS_i, catS_r, catS_l, Nat.reduceLeDiff, j1eq1, n21, jt0, jt1, Bool.false_eq_true, Classical.not_not, true_or, or_true, false_or, or_false, true_imp_iff, false_imp_iff, not_true_eq_false, not_false_eq_true, jif0, jif1, jifb, ltT, ltF, leT, leF, eqT, eqF, jlt, jle, jeq, jlt0, jle0, jeq0, jge0, jgt0, jinB, jnat, clt, cle, ceq, cgt, cge, lI_add, lI_sub, lI_mul, jadd, jsub, jmul, jneg, jtol, b010, b011, pv_2t, Int.toNat_natCast, Option.some.injEq, exists_eq_left', if_true, if_false, M4, F4, y]
                refine vs_ok 7 ?_
                rw [show ((gRes 230).drop 79).take 7 = [.aload 0, .getfield 12272, .iload 3, .iload 4, .iastore, .iinc 3 1, .goto 47] from rfl]
                simp (disch := omega) only [vs_goto, vs_getfield, vs_iastore, vs_aload0, vs_iload3, vs_iinc3n, vs_iinc3i, vs_iinc3r, vs_iinc3l, vs_iload4, vs_nil, gv_0, gv_1, gv_2, gv_3, pv_0, pv_1, va_rf_s, Nat.reduceDiv, Nat.reduceMod, Nat.reduceAdd, Nat.reduceMul, Int.reduceToNat, true_and, and_true, and_self, cP_eq, cP_ne, cP_lt, cP_ge, cP_gt, cP_le, eL_i, eL_l, eL_r, eL_n, Option.toList_none, Option.toList_some, List.nil_append, List.cons_append, kkI, llI, nnI, rrI, jjI, kkJ, llJ, nnJ, rrJ, iiJ, zIIs, zJJs, nEF, nET, and_false, false_and, jmin, jmax, catS_n, catS_i, catS_r, catS_l, Nat.reduceLeDiff, j1eq1, n21, jt0, jt1, Bool.false_eq_true, Classical.not_not, true_or, or_true, false_or, or_false, true_imp_iff, false_imp_iff, not_true_eq_false, not_false_eq_true, jif0, jif1, jifb, ltT, ltF, leT, leF, eqT, eqF, jlt, jle, jeq, jlt0, jle0, jeq0, jge0, jgt0, jinB, jnat, clt, cle, ceq, cgt, cge, lI_add, lI_sub, lI_mul, jadd, jsub, jmul, jneg, jtol, b010, b011, pv_2t, Int.toNat_natCast, Option.some.injEq, exists_eq_left', if_true, if_false, M4, R4]
                refine ih (k + 1) _ _ (by omega) (by omega) (f4.I rfl) (fun i hi => ?_) (Or.inr ?_)
                · rw [zI_s]
                  by_cases y : i = k
                  · rw [if_pos ⟨rfl, y⟩, y, es]
                  · rw [if_neg fun q => y q.2]
                    exact hR i (by omega)
                · rw [show k + 1 - 1 = k by omega, es]
                  exact u5
              | succ j ih2 =>
                intro v hv hsv
                have vl : v < nm := by omega
                have x := n4 at0 v st vl
                have y := I4 v vl
                have sb := nsg_b bt at0 v
                have fb := (tp.1 v vl).1
                have no := u3 v (by omega) (by omega)
                by_cases c1 : nsg bt at0 v = 1
                · have t : (bt at0).testBit v = true := by rw [← ns1]; exact c1
                  have nf : ff v ≠ len - k := fun q => by
                    rw [(pe v vl).mpr ⟨t, q⟩] at no
                    cases no
                  refine vs_ok 15 ?_
                  rw [show ((gRes 230).drop 54).take 15 = [.aload 0, .getfield 12122, .iconst 12, .aload 0, .getfield 12272, .iload 3, .iconst 1, .isub, .iaload, .imul, .iload 4, .iadd, .iaload, .iconst 1, .if_icmp .ne 77] from rfl]
                  simp (disch := omega) only [vs_iadd, vs_isub, vs_imul, vs_iconst, vs_if_icmp, vs_getfield, vs_iaload, vs_aload0, vs_iload3, vs_iload4, vs_nil, gv_0, gv_1, gv_2, gv_3, pv_0, pv_1, va_rf_s, Nat.reduceDiv, Nat.reduceMod, Nat.reduceAdd, Nat.reduceMul, Int.reduceToNat, true_and, and_true, and_self, cP_eq, cP_ne, cP_lt, cP_ge, cP_gt, cP_le, eL_i, eL_l, eL_r, eL_n, Option.toList_none, Option.toList_some, List.nil_append, List.cons_append, kkI, llI, nnI, rrI, jjI, kkJ, llJ, nnJ, rrJ, iiJ, zIIs, zJJs, nEF, nET, and_false, false_and, jmin, jmax, catS_n, catS_i, catS_r, catS_l, Nat.reduceLeDiff, j1eq1, n21, jt0, jt1, Bool.false_eq_true, Classical.not_not, true_or, or_true, false_or, or_false, true_imp_iff, false_imp_iff, not_true_eq_false, not_false_eq_true, jif0, jif1, jifb, ltT, ltF, leT, leF, eqT, eqF, jlt, jle, jeq, jlt0, jle0, jeq0, jge0, jgt0, jinB, jnat, clt, cle, ceq, cgt, cge, lI_add, lI_sub, lI_mul, jadd, jsub, jmul, jneg, jtol, b010, b011, pv_2t, Int.toNat_natCast, Option.some.injEq, exists_eq_left', if_true, if_false, M4, N4, R4, ke, rk, e12, x, c1]
                  refine vs_ok 8 ?_
                  rw [show ((gRes 230).drop 69).take 8 = [.aload 0, .getfield 12262, .iload 4, .iaload, .iload 1, .iload 3, .isub, .if_icmp .eq 79] from rfl]
                  simp (disch := omega) only [vs_isub, vs_if_icmp, vs_getfield, vs_iaload, vs_aload0, vs_iload1, vs_iload3, vs_iload4, vs_nil, gv_0, gv_1, gv_2, gv_3, pv_0, pv_1, va_rf_s, Nat.reduceDiv, Nat.reduceMod, Nat.reduceAdd, Nat.reduceMul, Int.reduceToNat, true_and, and_true, and_self, cP_eq, cP_ne, cP_lt, cP_ge, cP_gt, cP_le, eL_i, eL_l, eL_r, eL_n, Option.toList_none, Option.toList_some, List.nil_append, List.cons_append, kkI, llI, nnI, rrI, jjI, kkJ, llJ, nnJ, rrJ, iiJ, zIIs, zJJs, nEF, nET, and_false, false_and, jmin, jmax, catS_n, catS_i, catS_r, catS_l, Nat.reduceLeDiff, j1eq1, n21, jt0, jt1, Bool.false_eq_true, Classical.not_not, true_or, or_true, false_or, or_false, true_imp_iff, false_imp_iff, not_true_eq_false, not_false_eq_true, jif0, jif1, jifb, ltT, ltF, leT, leF, eqT, eqF, jlt, jle, jeq, jlt0, jle0, jeq0, jge0, jgt0, jinB, jnat, clt, cle, ceq, cgt, cge, lI_add, lI_sub, lI_mul, jadd, jsub, jmul, jneg, jtol, b010, b011, pv_2t, Int.toNat_natCast, Option.some.injEq, exists_eq_left', if_true, if_false, M4, F4, y]
                  refine vs_ok 2 ?_
                  rw [show ((gRes 230).drop 77).take 2 = [.iinc 4 1, .goto 54] from rfl]
                  simp (disch := omega) only [vs_goto, vs_iinc4n, vs_iinc4i, vs_iinc4r, vs_iinc4l, vs_nil, gv_0, gv_1, gv_2, gv_3, pv_0, pv_1, va_rf_s, Nat.reduceDiv, Nat.reduceMod, Nat.reduceAdd, Nat.reduceMul, Int.reduceToNat, true_and, and_true, and_self, cP_eq, cP_ne, cP_lt, cP_ge, cP_gt, cP_le, eL_i, eL_l, eL_r, eL_n, Option.toList_none, Option.toList_some, List.nil_append, List.cons_append, kkI, llI, nnI, rrI, jjI, kkJ, llJ, nnJ, rrJ, iiJ, zIIs, zJJs, nEF, nET, and_false, false_and, jmin, jmax, catS_n, catS_i, catS_r, catS_l, Nat.reduceLeDiff, j1eq1, n21, jt0, jt1, Bool.false_eq_true, Classical.not_not, true_or, or_true, false_or, or_false, true_imp_iff, false_imp_iff, not_true_eq_false, not_false_eq_true, jif0, jif1, jifb, ltT, ltF, leT, leF, eqT, eqF, jlt, jle, jeq, jlt0, jle0, jeq0, jge0, jgt0, jinB, jnat, clt, cle, ceq, cgt, cge, lI_add, lI_sub, lI_mul, jadd, jsub, jmul, jneg, jtol, b010, b011, pv_2t, Int.toNat_natCast, Option.some.injEq, exists_eq_left', if_true, if_false]
                  exact ih2 (v + 1) (by omega) (by omega)
                · refine vs_ok 15 ?_
                  rw [show ((gRes 230).drop 54).take 15 = [.aload 0, .getfield 12122, .iconst 12, .aload 0, .getfield 12272, .iload 3, .iconst 1, .isub, .iaload, .imul, .iload 4, .iadd, .iaload, .iconst 1, .if_icmp .ne 77] from rfl]
                  simp (disch := omega) only [vs_iadd, vs_isub, vs_imul, vs_iconst, vs_if_icmp, vs_getfield, vs_iaload, vs_aload0, vs_iload3, vs_iload4, vs_nil, gv_0, gv_1, gv_2, gv_3, pv_0, pv_1, va_rf_s, Nat.reduceDiv, Nat.reduceMod, Nat.reduceAdd, Nat.reduceMul, Int.reduceToNat, true_and, and_true, and_self, cP_eq, cP_ne, cP_lt, cP_ge, cP_gt, cP_le, eL_i, eL_l, eL_r, eL_n, Option.toList_none, Option.toList_some, List.nil_append, List.cons_append, kkI, llI, nnI, rrI, jjI, kkJ, llJ, nnJ, rrJ, iiJ, zIIs, zJJs, nEF, nET, and_false, false_and, jmin, jmax, catS_n, catS_i, catS_r, catS_l, Nat.reduceLeDiff, j1eq1, n21, jt0, jt1, Bool.false_eq_true, Classical.not_not, true_or, or_true, false_or, or_false, true_imp_iff, false_imp_iff, not_true_eq_false, not_false_eq_true, jif0, jif1, jifb, ltT, ltF, leT, leF, eqT, eqF, jlt, jle, jeq, jlt0, jle0, jeq0, jge0, jgt0, jinB, jnat, clt, cle, ceq, cgt, cge, lI_add, lI_sub, lI_mul, jadd, jsub, jmul, jneg, jtol, b010, b011, pv_2t, Int.toNat_natCast, Option.some.injEq, exists_eq_left', if_true, if_false, M4, N4, R4, ke, rk, e12, x]
                  refine vs_ok 2 ?_
                  rw [show ((gRes 230).drop 77).take 2 = [.iinc 4 1, .goto 54] from rfl]
                  simp (disch := omega) only [vs_goto, vs_iinc4n, vs_iinc4i, vs_iinc4r, vs_iinc4l, vs_nil, gv_0, gv_1, gv_2, gv_3, pv_0, pv_1, va_rf_s, Nat.reduceDiv, Nat.reduceMod, Nat.reduceAdd, Nat.reduceMul, Int.reduceToNat, true_and, and_true, and_self, cP_eq, cP_ne, cP_lt, cP_ge, cP_gt, cP_le, eL_i, eL_l, eL_r, eL_n, Option.toList_none, Option.toList_some, List.nil_append, List.cons_append, kkI, llI, nnI, rrI, jjI, kkJ, llJ, nnJ, rrJ, iiJ, zIIs, zJJs, nEF, nET, and_false, false_and, jmin, jmax, catS_n, catS_i, catS_r, catS_l, Nat.reduceLeDiff, j1eq1, n21, jt0, jt1, Bool.false_eq_true, Classical.not_not, true_or, or_true, false_or, or_false, true_imp_iff, false_imp_iff, not_true_eq_false, not_false_eq_true, jif0, jif1, jifb, ltT, ltF, leT, leF, eqT, eqF, jlt, jle, jeq, jlt0, jle0, jeq0, jge0, jgt0, jinB, jnat, clt, cle, ceq, cgt, cge, lI_add, lI_sub, lI_mul, jadd, jsub, jmul, jneg, jtol, b010, b011, pv_2t, Int.toNat_natCast, Option.some.injEq, exists_eq_left', if_true, if_false]
                  exact ih2 (v + 1) (by omega) (by omega)
            refine vs_ok 3 ?_
            rw [show ((gRes 230).drop 47).take 3 = [.iload 3, .iload 1, .if_icmp .ge 86] from rfl]
            simp (disch := omega) only [vs_if_icmp, vs_iload1, vs_iload3, vs_nil, gv_0, gv_1, gv_2, gv_3, pv_0, pv_1, va_rf_s, Nat.reduceDiv, Nat.reduceMod, Nat.reduceAdd, Nat.reduceMul, Int.reduceToNat, true_and, and_true, and_self, cP_eq, cP_ne, cP_lt, cP_ge, cP_gt, cP_le, eL_i, eL_l, eL_r, eL_n, Option.toList_none, Option.toList_some, List.nil_append, List.cons_append, kkI, llI, nnI, rrI, jjI, kkJ, llJ, nnJ, rrJ, iiJ, zIIs, zJJs, nEF, nET, and_false, false_and, jmin, jmax, catS_n, catS_i, catS_r, catS_l, Nat.reduceLeDiff, j1eq1, n21, jt0, jt1, Bool.false_eq_true, Classical.not_not, true_or, or_true, false_or, or_false, true_imp_iff, false_imp_iff, not_true_eq_false, not_false_eq_true, jif0, jif1, jifb, ltT, ltF, leT, leF, eqT, eqF, jlt, jle, jeq, jlt0, jle0, jeq0, jge0, jgt0, jinB, jnat, clt, cle, ceq, cgt, cge, lI_add, lI_sub, lI_mul, jadd, jsub, jmul, jneg, jtol, b010, b011, pv_2t, Int.toNat_natCast, Option.some.injEq, exists_eq_left', if_true, if_false]
            refine vs_ok 4 ?_
            rw [show ((gRes 230).drop 50).take 4 = [.iload 2, .iconst 1, .iadd, .istore 4] from rfl]
            simp (disch := omega) only [vs_iadd, vs_iconst, vs_iload2, vs_istore4n, vs_istore4i, vs_istore4r, vs_istore4l, vs_nil, gv_0, gv_1, gv_2, gv_3, pv_0, pv_1, va_rf_s, Nat.reduceDiv, Nat.reduceMod, Nat.reduceAdd, Nat.reduceMul, Int.reduceToNat, true_and, and_true, and_self, cP_eq, cP_ne, cP_lt, cP_ge, cP_gt, cP_le, eL_i, eL_l, eL_r, eL_n, Option.toList_none, Option.toList_some, List.nil_append, List.cons_append, kkI, llI, nnI, rrI, jjI, kkJ, llJ, nnJ, rrJ, iiJ, zIIs, zJJs, nEF, nET, and_false, false_and, jmin, jmax, catS_n, catS_i, catS_r, catS_l, Nat.reduceLeDiff, j1eq1, n21, jt0, jt1, Bool.false_eq_true, Classical.not_not, true_or, or_true, false_or, or_false, true_imp_iff, false_imp_iff, not_true_eq_false, not_false_eq_true, jif0, jif1, jifb, ltT, ltF, leT, leF, eqT, eqF, jlt, jle, jeq, jlt0, jle0, jeq0, jge0, jgt0, jinB, jnat, clt, cle, ceq, cgt, cge, lI_add, lI_sub, lI_mul, jadd, jsub, jmul, jneg, jtol, b010, b011, pv_2t, Int.toNat_natCast, Option.some.injEq, exists_eq_left', if_true, if_false]
            exact wl (u - (s0 + 1)) (s0 + 1) (by omega) (by omega)
        exact rl (len - 1) 1 _ g3 (by omega) (Nat.le_refl _) fi.rf (fun i hi => by
          have i0 : i = 0 := by omega
          rw [i0]
          exact i160) (Or.inl rfl)
    | succ j ih =>
      intro s B o4 g hs f hB hb1 hb2
      have hg := hm0.fi f
      have Mg := hg.k
      have A7 := hg.nameMany
      have m7 : zI g (m + 7) 0 = iI nm := by rw [f.1.2.2.2.2.2.1 _ (by omega)]; exact n7
      have hB' : srF bt nm j (s + 1) (if 0 < (wbF bt nm s).1 ∧ (B.1 = 0 ∨ (wbF bt nm s).1 < B.1) then ((wbF bt nm s).1, s) else B) = rgF bt nm := hB
      have bB : -1 ≤ (if B.1 = 0 then -1 else (B.2 : Int)) := by split <;> omega
      have bC : 0 ≤ (if B.1 = 0 then 100 else (B.1 : Int)) ∧ (if B.1 = 0 then 100 else (B.1 : Int)) ≤ 100 := by split <;> omega
      refine vs_ok 6 ?_
      rw [show ((gRes 230).drop 9).take 6 = [.iload 3, .aload 0, .getfield 12112, .iconst 0, .iaload, .if_icmp .ge 29] from rfl]
      simp (disch := omega) only [vs_iconst, vs_if_icmp, vs_getfield, vs_iaload, vs_aload0, vs_iload3, vs_nil, gv_0, gv_1, gv_2, gv_3, pv_0, pv_1, va_rf_s, Nat.reduceDiv, Nat.reduceMod, Nat.reduceAdd, Nat.reduceMul, Int.reduceToNat, true_and, and_true, and_self, cP_eq, cP_ne, cP_lt, cP_ge, cP_gt, cP_le, eL_i, eL_l, eL_r, eL_n, Option.toList_none, Option.toList_some, List.nil_append, List.cons_append, kkI, llI, nnI, rrI, jjI, kkJ, llJ, nnJ, rrJ, iiJ, zIIs, zJJs, nEF, nET, and_false, false_and, jmin, jmax, catS_n, catS_i, catS_r, catS_l, Nat.reduceLeDiff, j1eq1, n21, jt0, jt1, Bool.false_eq_true, Classical.not_not, true_or, or_true, false_or, or_false, true_imp_iff, false_imp_iff, not_true_eq_false, not_false_eq_true, jif0, jif1, jifb, ltT, ltF, leT, leF, eqT, eqF, jlt, jle, jeq, jlt0, jle0, jeq0, jge0, jgt0, jinB, jnat, clt, cle, ceq, cgt, cge, lI_add, lI_sub, lI_mul, jadd, jsub, jmul, jneg, jtol, b010, b011, pv_2t, Int.toNat_natCast, Option.some.injEq, exists_eq_left', if_true, if_false, Mg, A7, m7]
      refine vs_ok 2 ?_
      rw [show ((gRes 230).drop 15).take 2 = [.aload 0, .iload 3] from rfl]
      simp (disch := omega) only [vs_aload0, vs_iload3, vs_nil, gv_0, gv_1, gv_2, gv_3, pv_0, pv_1, va_rf_s, Nat.reduceDiv, Nat.reduceMod, Nat.reduceAdd, Nat.reduceMul, Int.reduceToNat, true_and, and_true, and_self, cP_eq, cP_ne, cP_lt, cP_ge, cP_gt, cP_le, eL_i, eL_l, eL_r, eL_n, Option.toList_none, Option.toList_some, List.nil_append, List.cons_append, kkI, llI, nnI, rrI, jjI, kkJ, llJ, nnJ, rrJ, iiJ, zIIs, zJJs, nEF, nET, and_false, false_and, jmin, jmax, catS_n, catS_i, catS_r, catS_l, Nat.reduceLeDiff, j1eq1, n21, jt0, jt1, Bool.false_eq_true, Classical.not_not, true_or, or_true, false_or, or_false, true_imp_iff, false_imp_iff, not_true_eq_false, not_false_eq_true, jif0, jif1, jifb, ltT, ltF, leT, leF, eqT, eqF, jlt, jle, jeq, jlt0, jle0, jeq0, jge0, jgt0, jinB, jnat, clt, cle, ceq, cgt, cge, lI_add, lI_sub, lI_mul, jadd, jsub, jmul, jneg, jtol, b010, b011, pv_2t, Int.toNat_natCast, Option.some.injEq, exists_eq_left', if_true, if_false]
      refine PW.iv rfl rfl rfl Mg.1 Mg.2 (le_b rfl) (le_b rfl) ?_
      refine t_M_through hg m7 hb (n0.fi f (by omega)) hp (show s < nm by omega) fun ff b g2 f2 hI tp bp => ⟨rfl, ⟨f2.1.2.2.1, rfl⟩, ?_⟩
      obtain ⟨w1, w2⟩ := wb_eq (show s < nm by omega) hb tp bp
      have b1 := bp.1
      have wle := wbO_le (bt := bt) (nm := nm) (s := s) (nm - 1) 1 (2 ^ s) (fun _ => 0) (by omega)
      have wle' : (wbF bt nm s).1 ≤ nm := wle
      by_cases c : 0 < (wbF bt nm s).1 ∧ (B.1 = 0 ∨ (wbF bt nm s).1 < B.1)
      · rw [if_pos c] at hB'
        have y := ih (s + 1) ((wbF bt nm s).1, s) (some (.int (iI b))) g2 (by omega) (f.tr f2) hB' (by show (wbF bt nm s).1 < 100; omega) (fun _ => by show s < nm; omega)
        have bn : b ≠ 100 := fun q => by rw [if_pos q] at w1; omega
        rw [if_neg bn] at w1
        try dsimp only at y
        rw [if_neg (by omega), if_neg (by omega), w1] at y
        rw [w1] at c
        have lt : (b : Int) < (if B.1 = 0 then 100 else (B.1 : Int)) := by
          split <;> omega
        generalize (if B.1 = 0 then 100 else (B.1 : Int)) = best at *
        refine vs_ok 4 ?_
        rw [show ((gRes 230).drop 18).take 4 = [.istore 4, .iload 4, .iload 1, .if_icmp .lt 23] from rfl]
        simp (disch := omega) only [vs_if_icmp, vs_iload1, vs_iload4, vs_istore4n, vs_istore4i, vs_istore4r, vs_istore4l, vs_nil, gv_0, gv_1, gv_2, gv_3, pv_0, pv_1, va_rf_s, Nat.reduceDiv, Nat.reduceMod, Nat.reduceAdd, Nat.reduceMul, Int.reduceToNat, true_and, and_true, and_self, cP_eq, cP_ne, cP_lt, cP_ge, cP_gt, cP_le, eL_i, eL_l, eL_r, eL_n, Option.toList_none, Option.toList_some, List.nil_append, List.cons_append, kkI, llI, nnI, rrI, jjI, kkJ, llJ, nnJ, rrJ, iiJ, zIIs, zJJs, nEF, nET, and_false, false_and, jmin, jmax, catS_n, catS_i, catS_r, catS_l, Nat.reduceLeDiff, j1eq1, n21, jt0, jt1, Bool.false_eq_true, Classical.not_not, true_or, or_true, false_or, or_false, true_imp_iff, false_imp_iff, not_true_eq_false, not_false_eq_true, jif0, jif1, jifb, ltT, ltF, leT, leF, eqT, eqF, jlt, jle, jeq, jlt0, jle0, jeq0, jge0, jgt0, jinB, jnat, clt, cle, ceq, cgt, cge, lI_add, lI_sub, lI_mul, jadd, jsub, jmul, jneg, jtol, b010, b011, pv_2t, Int.toNat_natCast, Option.some.injEq, exists_eq_left', if_true, if_false]
        refine vs_ok 6 ?_
        rw [show ((gRes 230).drop 23).take 6 = [.iload 4, .istore 1, .iload 3, .istore 2, .iinc 3 1, .goto 9] from rfl]
        simp (disch := omega) only [vs_goto, vs_istore1n, vs_istore1i, vs_istore1r, vs_istore1l, vs_istore2n, vs_istore2i, vs_istore2r, vs_istore2l, vs_iload3, vs_iinc3n, vs_iinc3i, vs_iinc3r, vs_iinc3l, vs_iload4, vs_nil, gv_0, gv_1, gv_2, gv_3, pv_0, pv_1, va_rf_s, Nat.reduceDiv, Nat.reduceMod, Nat.reduceAdd, Nat.reduceMul, Int.reduceToNat, true_and, and_true, and_self, cP_eq, cP_ne, cP_lt, cP_ge, cP_gt, cP_le, eL_i, eL_l, eL_r, eL_n, Option.toList_none, Option.toList_some, List.nil_append, List.cons_append, kkI, llI, nnI, rrI, jjI, kkJ, llJ, nnJ, rrJ, iiJ, zIIs, zJJs, nEF, nET, and_false, false_and, jmin, jmax, catS_n, catS_i, catS_r, catS_l, Nat.reduceLeDiff, j1eq1, n21, jt0, jt1, Bool.false_eq_true, Classical.not_not, true_or, or_true, false_or, or_false, true_imp_iff, false_imp_iff, not_true_eq_false, not_false_eq_true, jif0, jif1, jifb, ltT, ltF, leT, leF, eqT, eqF, jlt, jle, jeq, jlt0, jle0, jeq0, jge0, jgt0, jinB, jnat, clt, cle, ceq, cgt, cge, lI_add, lI_sub, lI_mul, jadd, jsub, jmul, jneg, jtol, b010, b011, pv_2t, Int.toNat_natCast, Option.some.injEq, exists_eq_left', if_true, if_false]
        exact y
      · rw [if_neg c] at hB'
        have y := ih (s + 1) B (some (.int (iI b))) g2 (by omega) (f.tr f2) hB' hb1 hb2
        have ge : ¬ (b : Int) < (if B.1 = 0 then 100 else (B.1 : Int)) := by
          by_cases q : b = 100
          · rw [q]
            split <;> omega
          · rw [if_neg q] at w1
            rw [w1] at c
            have := (w2 q).1
            split <;> omega
        generalize (if B.1 = 0 then 100 else (B.1 : Int)) = best at *
        refine vs_ok 4 ?_
        rw [show ((gRes 230).drop 18).take 4 = [.istore 4, .iload 4, .iload 1, .if_icmp .lt 23] from rfl]
        simp (disch := omega) only [vs_if_icmp, vs_iload1, vs_iload4, vs_istore4n, vs_istore4i, vs_istore4r, vs_istore4l, vs_nil, gv_0, gv_1, gv_2, gv_3, pv_0, pv_1, va_rf_s, Nat.reduceDiv, Nat.reduceMod, Nat.reduceAdd, Nat.reduceMul, Int.reduceToNat, true_and, and_true, and_self, cP_eq, cP_ne, cP_lt, cP_ge, cP_gt, cP_le, eL_i, eL_l, eL_r, eL_n, Option.toList_none, Option.toList_some, List.nil_append, List.cons_append, kkI, llI, nnI, rrI, jjI, kkJ, llJ, nnJ, rrJ, iiJ, zIIs, zJJs, nEF, nET, and_false, false_and, jmin, jmax, catS_n, catS_i, catS_r, catS_l, Nat.reduceLeDiff, j1eq1, n21, jt0, jt1, Bool.false_eq_true, Classical.not_not, true_or, or_true, false_or, or_false, true_imp_iff, false_imp_iff, not_true_eq_false, not_false_eq_true, jif0, jif1, jifb, ltT, ltF, leT, leF, eqT, eqF, jlt, jle, jeq, jlt0, jle0, jeq0, jge0, jgt0, jinB, jnat, clt, cle, ceq, cgt, cge, lI_add, lI_sub, lI_mul, jadd, jsub, jmul, jneg, jtol, b010, b011, pv_2t, Int.toNat_natCast, Option.some.injEq, exists_eq_left', if_true, if_false]
        refine vs_ok 1 ?_
        rw [show ((gRes 230).drop 22).take 1 = [.goto 27] from rfl]
        simp (disch := omega) only [vs_goto, vs_nil, gv_0, gv_1, gv_2, gv_3, pv_0, pv_1, va_rf_s, Nat.reduceDiv, Nat.reduceMod, Nat.reduceAdd, Nat.reduceMul, Int.reduceToNat, true_and, and_true, and_self, cP_eq, cP_ne, cP_lt, cP_ge, cP_gt, cP_le, eL_i, eL_l, eL_r, eL_n, Option.toList_none, Option.toList_some, List.nil_append, List.cons_append, kkI, llI, nnI, rrI, jjI, kkJ, llJ, nnJ, rrJ, iiJ, zIIs, zJJs, nEF, nET, and_false, false_and, jmin, jmax, catS_n, catS_i, catS_r, catS_l, Nat.reduceLeDiff, j1eq1, n21, jt0, jt1, Bool.false_eq_true, Classical.not_not, true_or, or_true, false_or, or_false, true_imp_iff, false_imp_iff, not_true_eq_false, not_false_eq_true, jif0, jif1, jifb, ltT, ltF, leT, leF, eqT, eqF, jlt, jle, jeq, jlt0, jle0, jeq0, jge0, jgt0, jinB, jnat, clt, cle, ceq, cgt, cge, lI_add, lI_sub, lI_mul, jadd, jsub, jmul, jneg, jtol, b010, b011, pv_2t, Int.toNat_natCast, Option.some.injEq, exists_eq_left', if_true, if_false]
        refine vs_ok 2 ?_
        rw [show ((gRes 230).drop 27).take 2 = [.iinc 3 1, .goto 9] from rfl]
        simp (disch := omega) only [vs_goto, vs_iinc3n, vs_iinc3i, vs_iinc3r, vs_iinc3l, vs_nil, gv_0, gv_1, gv_2, gv_3, pv_0, pv_1, va_rf_s, Nat.reduceDiv, Nat.reduceMod, Nat.reduceAdd, Nat.reduceMul, Int.reduceToNat, true_and, and_true, and_self, cP_eq, cP_ne, cP_lt, cP_ge, cP_gt, cP_le, eL_i, eL_l, eL_r, eL_n, Option.toList_none, Option.toList_some, List.nil_append, List.cons_append, kkI, llI, nnI, rrI, jjI, kkJ, llJ, nnJ, rrJ, iiJ, zIIs, zJJs, nEF, nET, and_false, false_and, jmin, jmax, catS_n, catS_i, catS_r, catS_l, Nat.reduceLeDiff, j1eq1, n21, jt0, jt1, Bool.false_eq_true, Classical.not_not, true_or, or_true, false_or, or_false, true_imp_iff, false_imp_iff, not_true_eq_false, not_false_eq_true, jif0, jif1, jifb, ltT, ltF, leT, leF, eqT, eqF, jlt, jle, jeq, jlt0, jle0, jeq0, jge0, jgt0, jinB, jnat, clt, cle, ceq, cgt, cge, lI_add, lI_sub, lI_mul, jadd, jsub, jmul, jneg, jtol, b010, b011, pv_2t, Int.toNat_natCast, Option.some.injEq, exists_eq_left', if_true, if_false]
        exact y
  exact lp nm 0 (0, 0) none g0 (by omega) fi.rf rfl (by show 0 < 100; omega) fun y => absurd rfl y
