/-! the Model's table -/
/-- which of two is more often greater -/
def ntF (V : Nat → RowVal) (a b : Nat) : Int := if abV (V b).2.2.2 (V a).2.2.2 < abV (V a).2.2.2 (V b).2.2.2 then 1 else if abV (V a).2.2.2 (V b).2.2.2 < abV (V b).2.2.2 (V a).2.2.2 then -1 else 0
def netS (h : Hp) (m n : Nat) (V : Nat → RowVal) : Prop := ∀ a b, a < n → b < n → zI h (m + 8) (12 * a + b) = iI (ntF V a b)
theorem gV.w8 {v : RowVal} (g : gV v) : gW 800 v := by
  have := thrV_gW g 0 v (by omega) rfl
  obtain ⟨a1, a2, a3, a4, a5⟩ := this
  exact ⟨by omega, a2, a3, a4, a5⟩
theorem t_M_net {D : Nat} {g0 : Hp} {m n : Nat} {F : Nat → Int} {V : Nat → RowVal} {Q : Nat → Option Value → Hp → Prop} (hm : mO g0 m) (ns : mnS g0 m n F V) (hq : ∀ g, fi (fun q => q = m + 8 ∨ q = m + 13 ∨ q = m + 14) g0 g → netS g m n V → Q 0 (some (.int (iI n))) g) :
    ∀ l1 l2 l3 l4 l5 l6 : Option Value, PW (D + 1) 212 82 [some (.ref m), l1, l2, l3, l4, l5, l6] [] g0 Q := by
  intro l1 l2 l3 l4 l5 l6
  have n12 := ns.2.1
  have lp : ∀ (ja a : Nat) (g : Hp) (l2 l3 l4 l5 l6 : Option Value), ja + a = n → fi (fun q => q = m + 8 ∨ q = m + 13 ∨ q = m + 14) g0 g → (∀ x y, x < a → y < n → zI g (m + 8) (12 * x + y) = iI (ntF V x y)) → PW (D + 1) 212 84 [some (.ref m), some (.int (iI a)), l2, l3, l4, l5, l6] [] g Q := by
    intro ja
    induction ja with
    | zero =>
      intro a g l2 l3 l4 l5 l6 ha f dn
      have hg := hm.fi f
      have M := hg.k
      have A7 := hg.nameMany
      have n0 : zI g (m + 7) 0 = iI n := by rw [f.1.2.2.2.2.2.1 (m + 7) (by omega)]; exact ns.1
      refine vs_ok 6 ?_
      rw [show ((gRes 212).drop 84).take 6 = [.iload 1, .aload 0, .getfield 12112, .iconst 0, .iaload, .if_icmp .ge 145] from rfl]
      simp (disch := omega) only [vs_iconst, vs_if_icmp, vs_getfield, vs_iaload, vs_aload0, vs_iload1, vs_nil, gv_0, gv_1, gv_2, gv_3, pv_0, pv_1, va_rf_s, Nat.reduceDiv, Nat.reduceMod, Nat.reduceAdd, Nat.reduceMul, Int.reduceToNat, true_and, and_true, and_self, cP_eq, cP_ne, cP_lt, cP_ge, cP_gt, cP_le, eL_i, eL_l, eL_r, eL_n, Option.toList_none, Option.toList_some, List.nil_append, List.cons_append, kkI, llI, nnI, rrI, jjI, kkJ, llJ, nnJ, rrJ, iiJ, zIIs, zJJs, nEF, nET, and_false, false_and, jmin, jmax, catS_n, catS_i, catS_r, catS_l, Nat.reduceLeDiff, j1eq1, n21, jt0, jt1, Bool.false_eq_true, Classical.not_not, true_or, or_true, false_or, or_false, true_imp_iff, false_imp_iff, not_true_eq_false, not_false_eq_true, jif0, jif1, jifb, ltT, ltF, leT, leF, eqT, eqF, jlt, jle, jeq, jlt0, jle0, jeq0, jge0, jgt0, jinB, jnat, clt, cle, ceq, cgt, cge, lI_add, lI_sub, lI_mul, jadd, jsub, jmul, jneg, jtol, b010, b011, pv_2t, Int.toNat_natCast, Option.some.injEq, exists_eq_left', if_true, if_false, M, A7, n0]
      refine vs_ok 5 ?_
      rw [show ((gRes 212).drop 145).take 5 = [.aload 0, .getfield 12112, .iconst 0, .iaload, .ireturn] from rfl]
      simp (disch := omega) only [vs_iconst, vs_getfield, vs_iaload, vs_ireturn, vs_aload0, vs_nil, gv_0, gv_1, gv_2, gv_3, pv_0, pv_1, va_rf_s, Nat.reduceDiv, Nat.reduceMod, Nat.reduceAdd, Nat.reduceMul, Int.reduceToNat, true_and, and_true, and_self, cP_eq, cP_ne, cP_lt, cP_ge, cP_gt, cP_le, eL_i, eL_l, eL_r, eL_n, Option.toList_none, Option.toList_some, List.nil_append, List.cons_append, kkI, llI, nnI, rrI, jjI, kkJ, llJ, nnJ, rrJ, iiJ, zIIs, zJJs, nEF, nET, and_false, false_and, jmin, jmax, catS_n, catS_i, catS_r, catS_l, Nat.reduceLeDiff, j1eq1, n21, jt0, jt1, Bool.false_eq_true, Classical.not_not, true_or, or_true, false_or, or_false, true_imp_iff, false_imp_iff, not_true_eq_false, not_false_eq_true, jif0, jif1, jifb, ltT, ltF, leT, leF, eqT, eqF, jlt, jle, jeq, jlt0, jle0, jeq0, jge0, jgt0, jinB, jnat, clt, cle, ceq, cgt, cge, lI_add, lI_sub, lI_mul, jadd, jsub, jmul, jneg, jtol, b010, b011, pv_2t, Int.toNat_natCast, Option.some.injEq, exists_eq_left', if_true, if_false, M, A7, n0, show gRc 212 = 1 from rfl]
      exact hq g f fun x y hx hy => dn x y (by omega) hy
    | succ ja iha =>
      intro a g l2 l3 l4 l5 l6 ha f dn
      have hg := hm.fi f
      have M := hg.k
      have A7 := hg.nameMany
      have n0 : zI g (m + 7) 0 = iI n := by rw [f.1.2.2.2.2.2.1 (m + 7) (by omega)]; exact ns.1
      have lpb : ∀ (jb b : Nat) (g : Hp) (l3 l4 l5 l6 : Option Value), jb + b = n → fi (fun q => q = m + 8 ∨ q = m + 13 ∨ q = m + 14) g0 g → (∀ x y, (x < a ∧ y < n ∨ x = a ∧ y < b) → zI g (m + 8) (12 * x + y) = iI (ntF V x y)) → PW (D + 1) 212 92 [some (.ref m), some (.int (iI a)), some (.int (iI b)), l3, l4, l5, l6] [] g Q := by
        intro jb
        induction jb with
        | zero =>
          intro b g l3 l4 l5 l6 hb f dn
          have hg := hm.fi f
          have M := hg.k
          have A7 := hg.nameMany
          have n0 : zI g (m + 7) 0 = iI n := by rw [f.1.2.2.2.2.2.1 (m + 7) (by omega)]; exact ns.1
          refine vs_ok 6 ?_
          rw [show ((gRes 212).drop 92).take 6 = [.iload 2, .aload 0, .getfield 12112, .iconst 0, .iaload, .if_icmp .ge 143] from rfl]
          simp (disch := omega) only [vs_iconst, vs_if_icmp, vs_getfield, vs_iaload, vs_aload0, vs_iload2, vs_nil, gv_0, gv_1, gv_2, gv_3, pv_0, pv_1, va_rf_s, Nat.reduceDiv, Nat.reduceMod, Nat.reduceAdd, Nat.reduceMul, Int.reduceToNat, true_and, and_true, and_self, cP_eq, cP_ne, cP_lt, cP_ge, cP_gt, cP_le, eL_i, eL_l, eL_r, eL_n, Option.toList_none, Option.toList_some, List.nil_append, List.cons_append, kkI, llI, nnI, rrI, jjI, kkJ, llJ, nnJ, rrJ, iiJ, zIIs, zJJs, nEF, nET, and_false, false_and, jmin, jmax, catS_n, catS_i, catS_r, catS_l, Nat.reduceLeDiff, j1eq1, n21, jt0, jt1, Bool.false_eq_true, Classical.not_not, true_or, or_true, false_or, or_false, true_imp_iff, false_imp_iff, not_true_eq_false, not_false_eq_true, jif0, jif1, jifb, ltT, ltF, leT, leF, eqT, eqF, jlt, jle, jeq, jlt0, jle0, jeq0, jge0, jgt0, jinB, jnat, clt, cle, ceq, cgt, cge, lI_add, lI_sub, lI_mul, jadd, jsub, jmul, jneg, jtol, b010, b011, pv_2t, Int.toNat_natCast, Option.some.injEq, exists_eq_left', if_true, if_false, M, A7, n0]
          refine vs_ok 2 ?_
          rw [show ((gRes 212).drop 143).take 2 = [.iinc 1 1, .goto 84] from rfl]
          simp (disch := omega) only [vs_goto, vs_iinc1n, vs_iinc1i, vs_iinc1r, vs_iinc1l, vs_nil, gv_0, gv_1, gv_2, gv_3, pv_0, pv_1, va_rf_s, Nat.reduceDiv, Nat.reduceMod, Nat.reduceAdd, Nat.reduceMul, Int.reduceToNat, true_and, and_true, and_self, cP_eq, cP_ne, cP_lt, cP_ge, cP_gt, cP_le, eL_i, eL_l, eL_r, eL_n, Option.toList_none, Option.toList_some, List.nil_append, List.cons_append, kkI, llI, nnI, rrI, jjI, kkJ, llJ, nnJ, rrJ, iiJ, zIIs, zJJs, nEF, nET, and_false, false_and, jmin, jmax, catS_n, catS_i, catS_r, catS_l, Nat.reduceLeDiff, j1eq1, n21, jt0, jt1, Bool.false_eq_true, Classical.not_not, true_or, or_true, false_or, or_false, true_imp_iff, false_imp_iff, not_true_eq_false, not_false_eq_true, jif0, jif1, jifb, ltT, ltF, leT, leF, eqT, eqF, jlt, jle, jeq, jlt0, jle0, jeq0, jge0, jgt0, jinB, jnat, clt, cle, ceq, cgt, cge, lI_add, lI_sub, lI_mul, jadd, jsub, jmul, jneg, jtol, b010, b011, pv_2t, Int.toNat_natCast, Option.some.injEq, exists_eq_left', if_true, if_false]
          exact iha (a + 1) g _ _ _ _ _ (by omega) f fun x y hx hy => dn x y (by omega)
        | succ jb ihb =>
          intro b g l3 l4 l5 l6 hb f dn
          have hg := hm.fi f
          have M := hg.k
          have A7 := hg.nameMany
          have n0 : zI g (m + 7) 0 = iI n := by rw [f.1.2.2.2.2.2.1 (m + 7) (by omega)]; exact ns.1
          have nsg := ns.fi f (by omega) (by omega) (by omega) (by omega)
          obtain ⟨-, -, na⟩ := nsg
          have na' := na a (by omega)
          have nb' := na b (by omega)
          have ga := na'.2.2
          have gb := nb'.2.2
          refine vs_ok 6 ?_
          rw [show ((gRes 212).drop 92).take 6 = [.iload 2, .aload 0, .getfield 12112, .iconst 0, .iaload, .if_icmp .ge 143] from rfl]
          simp (disch := omega) only [vs_iconst, vs_if_icmp, vs_getfield, vs_iaload, vs_aload0, vs_iload2, vs_nil, gv_0, gv_1, gv_2, gv_3, pv_0, pv_1, va_rf_s, Nat.reduceDiv, Nat.reduceMod, Nat.reduceAdd, Nat.reduceMul, Int.reduceToNat, true_and, and_true, and_self, cP_eq, cP_ne, cP_lt, cP_ge, cP_gt, cP_le, eL_i, eL_l, eL_r, eL_n, Option.toList_none, Option.toList_some, List.nil_append, List.cons_append, kkI, llI, nnI, rrI, jjI, kkJ, llJ, nnJ, rrJ, iiJ, zIIs, zJJs, nEF, nET, and_false, false_and, jmin, jmax, catS_n, catS_i, catS_r, catS_l, Nat.reduceLeDiff, j1eq1, n21, jt0, jt1, Bool.false_eq_true, Classical.not_not, true_or, or_true, false_or, or_false, true_imp_iff, false_imp_iff, not_true_eq_false, not_false_eq_true, jif0, jif1, jifb, ltT, ltF, leT, leF, eqT, eqF, jlt, jle, jeq, jlt0, jle0, jeq0, jge0, jgt0, jinB, jnat, clt, cle, ceq, cgt, cge, lI_add, lI_sub, lI_mul, jadd, jsub, jmul, jneg, jtol, b010, b011, pv_2t, Int.toNat_natCast, Option.some.injEq, exists_eq_left', if_true, if_false, M, A7, n0]
          refine vs_ok 4 ?_
          rw [show ((gRes 212).drop 98).take 4 = [.aload 0, .iload 1, .iconst 1, .iconst 0] from rfl]
          simp (disch := omega) only [vs_iconst, vs_aload0, vs_iload1, vs_nil, gv_0, gv_1, gv_2, gv_3, pv_0, pv_1, va_rf_s, Nat.reduceDiv, Nat.reduceMod, Nat.reduceAdd, Nat.reduceMul, Int.reduceToNat, true_and, and_true, and_self, cP_eq, cP_ne, cP_lt, cP_ge, cP_gt, cP_le, eL_i, eL_l, eL_r, eL_n, Option.toList_none, Option.toList_some, List.nil_append, List.cons_append, kkI, llI, nnI, rrI, jjI, kkJ, llJ, nnJ, rrJ, iiJ, zIIs, zJJs, nEF, nET, and_false, false_and, jmin, jmax, catS_n, catS_i, catS_r, catS_l, Nat.reduceLeDiff, j1eq1, n21, jt0, jt1, Bool.false_eq_true, Classical.not_not, true_or, or_true, false_or, or_false, true_imp_iff, false_imp_iff, not_true_eq_false, not_false_eq_true, jif0, jif1, jifb, ltT, ltF, leT, leF, eqT, eqF, jlt, jle, jeq, jlt0, jle0, jeq0, jge0, jgt0, jinB, jnat, clt, cle, ceq, cgt, cge, lI_add, lI_sub, lI_mul, jadd, jsub, jmul, jneg, jtol, b010, b011, pv_2t, Int.toNat_natCast, Option.some.injEq, exists_eq_left', if_true, if_false]
          refine PW.iv rfl rfl rfl M.1 M.2 (le_b rfl) (le_b rfl) ?_
          refine t_M_throwTimes (a := a) (to := 0) (k := 1) (v := V a) hg (by omega) (by omega) (by omega) na'.2.1 ga (fun z => by cases z) fun w hw gw g1 c1 w1 => ⟨rfl, ⟨c1.1.1.2.2.1, rfl⟩, ?_⟩
          have ew : V a = w := Option.some.inj hw
          rw [← ew] at w1
          have f1 := f.tr (c1.1.wk fun q z => by omega)
          have h1 := hm.fi f1
          have M1 := h1.k
          have nb1 := ((ns.fi f1 (by omega) (by omega) (by omega) (by omega)).2.2 b (by omega)).2.1
          refine vs_ok 5 ?_
          rw [show ((gRes 212).drop 103).take 5 = [.pop, .aload 0, .iload 2, .iconst 1, .iconst 1] from rfl]
          simp (disch := omega) only [vs_iconst, vs_aload0, vs_iload2, vs_nil, gv_0, gv_1, gv_2, gv_3, pv_0, pv_1, va_rf_s, vs_popi, vs_popr, Nat.reduceDiv, Nat.reduceMod, Nat.reduceAdd, Nat.reduceMul, Int.reduceToNat, true_and, and_true, and_self, cP_eq, cP_ne, cP_lt, cP_ge, cP_gt, cP_le, eL_i, eL_l, eL_r, eL_n, Option.toList_none, Option.toList_some, List.nil_append, List.cons_append, kkI, llI, nnI, rrI, jjI, kkJ, llJ, nnJ, rrJ, iiJ, zIIs, zJJs, nEF, nET, and_false, false_and, jmin, jmax, catS_n, catS_i, catS_r, catS_l, Nat.reduceLeDiff, j1eq1, n21, jt0, jt1, Bool.false_eq_true, Classical.not_not, true_or, or_true, false_or, or_false, true_imp_iff, false_imp_iff, not_true_eq_false, not_false_eq_true, jif0, jif1, jifb, ltT, ltF, leT, leF, eqT, eqF, jlt, jle, jeq, jlt0, jle0, jeq0, jge0, jgt0, jinB, jnat, clt, cle, ceq, cgt, cge, lI_add, lI_sub, lI_mul, jadd, jsub, jmul, jneg, jtol, b010, b011, pv_2t, Int.toNat_natCast, Option.some.injEq, exists_eq_left', if_true, if_false]
          refine PW.iv rfl rfl rfl M1.1 M1.2 (le_b rfl) (le_b rfl) ?_
          refine t_M_throwTimes (a := b) (to := 1) (k := 1) (v := V b) h1 (by omega) (by omega) (by omega) nb1 gb (fun z => by cases z) fun w hw gw g2 c2 w2 => ⟨rfl, ⟨c2.1.1.2.2.1, rfl⟩, ?_⟩
          have ew : V b = w := Option.some.inj hw
          rw [← ew] at w2
          have f2 := f1.tr (c2.1.wk fun q z => by omega)
          have h2 := hm.fi f2
          have M2 := h2.k
          have w1' := c2.o w1 (by omega)
          have sa := ga.w8.spt
          have sb := gb.w8.spt
          have b1 := ab_w ga.w8 gb.w8
          have b2 := ab_w gb.w8 ga.w8
          refine vs_ok 4 ?_
          rw [show ((gRes 212).drop 109).take 4 = [.pop, .aload 0, .iconst 0, .iconst 1] from rfl]
          simp (disch := omega) only [vs_iconst, vs_aload0, vs_nil, gv_0, gv_1, gv_2, gv_3, pv_0, pv_1, va_rf_s, vs_popi, vs_popr, Nat.reduceDiv, Nat.reduceMod, Nat.reduceAdd, Nat.reduceMul, Int.reduceToNat, true_and, and_true, and_self, cP_eq, cP_ne, cP_lt, cP_ge, cP_gt, cP_le, eL_i, eL_l, eL_r, eL_n, Option.toList_none, Option.toList_some, List.nil_append, List.cons_append, kkI, llI, nnI, rrI, jjI, kkJ, llJ, nnJ, rrJ, iiJ, zIIs, zJJs, nEF, nET, and_false, false_and, jmin, jmax, catS_n, catS_i, catS_r, catS_l, Nat.reduceLeDiff, j1eq1, n21, jt0, jt1, Bool.false_eq_true, Classical.not_not, true_or, or_true, false_or, or_false, true_imp_iff, false_imp_iff, not_true_eq_false, not_false_eq_true, jif0, jif1, jifb, ltT, ltF, leT, leF, eqT, eqF, jlt, jle, jeq, jlt0, jle0, jeq0, jge0, jgt0, jinB, jnat, clt, cle, ceq, cgt, cge, lI_add, lI_sub, lI_mul, jadd, jsub, jmul, jneg, jtol, b010, b011, pv_2t, Int.toNat_natCast, Option.some.injEq, exists_eq_left', if_true, if_false]
          refine PW.iv rfl rfl rfl M2.1 M2.2 (le_b rfl) (le_b rfl) ?_
          refine t_M_greater (x := 0) (y := 1) h2 (by omega) (by omega) w1' w2 sa sb ⟨rfl, ⟨rfl, rfl⟩, ?_⟩
          refine vs_ok 4 ?_
          rw [show ((gRes 212).drop 114).take 4 = [.lstore 3, .aload 0, .iconst 1, .iconst 0] from rfl]
          simp (disch := omega) only [vs_iconst, vs_aload0, vs_lstore3n, vs_lstore3i, vs_lstore3r, vs_lstore3l, vs_nil, gv_0, gv_1, gv_2, gv_3, pv_0, pv_1, va_rf_s, Nat.reduceDiv, Nat.reduceMod, Nat.reduceAdd, Nat.reduceMul, Int.reduceToNat, true_and, and_true, and_self, cP_eq, cP_ne, cP_lt, cP_ge, cP_gt, cP_le, eL_i, eL_l, eL_r, eL_n, Option.toList_none, Option.toList_some, List.nil_append, List.cons_append, kkI, llI, nnI, rrI, jjI, kkJ, llJ, nnJ, rrJ, iiJ, zIIs, zJJs, nEF, nET, and_false, false_and, jmin, jmax, catS_n, catS_i, catS_r, catS_l, Nat.reduceLeDiff, j1eq1, n21, jt0, jt1, Bool.false_eq_true, Classical.not_not, true_or, or_true, false_or, or_false, true_imp_iff, false_imp_iff, not_true_eq_false, not_false_eq_true, jif0, jif1, jifb, ltT, ltF, leT, leF, eqT, eqF, jlt, jle, jeq, jlt0, jle0, jeq0, jge0, jgt0, jinB, jnat, clt, cle, ceq, cgt, cge, lI_add, lI_sub, lI_mul, jadd, jsub, jmul, jneg, jtol, b010, b011, pv_2t, Int.toNat_natCast, Option.some.injEq, exists_eq_left', if_true, if_false]
          refine PW.iv rfl rfl rfl M2.1 M2.2 (le_b rfl) (le_b rfl) ?_
          refine t_M_greater (x := 1) (y := 0) h2 (by omega) (by omega) w2 w1' sb sa ⟨rfl, ⟨rfl, rfl⟩, ?_⟩
          have A8 := h2.net
          have e8 : (12 : Int) * (a : Int) + (b : Int) = ((12 * a + b : Nat) : Int) := by omega
          have dn2 : ∀ x y, (x < a ∧ y < n ∨ x = a ∧ y < b) → zI g2 (m + 8) (12 * x + y) = iI (ntF V x y) := fun x y hxy => by rw [c2.2.1, c1.2.1]; exact dn x y hxy
          have en : ntF V a b = if abV (V b).2.2.2 (V a).2.2.2 < abV (V a).2.2.2 (V b).2.2.2 then 1 else if abV (V a).2.2.2 (V b).2.2.2 < abV (V b).2.2.2 (V a).2.2.2 then -1 else 0 := rfl
          have fin : ∀ x l3 l4 l5 l6, ntF V a b = x → PW (D + 1) 212 140 [some (.ref m), some (.int (iI a)), some (.int (iI b)), l3, l4, l5, l6] [.int (iI x), .int (iI ((12 * a + b : Nat) : Int)), .ref (m + 8)] g2 Q := fun x l3 l4 l5 l6 hx => by
            refine vs_ok 3 ?_
            rw [show ((gRes 212).drop 140).take 3 = [.iastore, .iinc 2 1, .goto 92] from rfl]
            simp (disch := omega) only [vs_goto, vs_iastore, vs_iinc2n, vs_iinc2i, vs_iinc2r, vs_iinc2l, vs_nil, gv_0, gv_1, gv_2, gv_3, pv_0, pv_1, va_rf_s, Nat.reduceDiv, Nat.reduceMod, Nat.reduceAdd, Nat.reduceMul, Int.reduceToNat, true_and, and_true, and_self, cP_eq, cP_ne, cP_lt, cP_ge, cP_gt, cP_le, eL_i, eL_l, eL_r, eL_n, Option.toList_none, Option.toList_some, List.nil_append, List.cons_append, kkI, llI, nnI, rrI, jjI, kkJ, llJ, nnJ, rrJ, iiJ, zIIs, zJJs, nEF, nET, and_false, false_and, jmin, jmax, catS_n, catS_i, catS_r, catS_l, Nat.reduceLeDiff, j1eq1, n21, jt0, jt1, Bool.false_eq_true, Classical.not_not, true_or, or_true, false_or, or_false, true_imp_iff, false_imp_iff, not_true_eq_false, not_false_eq_true, jif0, jif1, jifb, ltT, ltF, leT, leF, eqT, eqF, jlt, jle, jeq, jlt0, jle0, jeq0, jge0, jgt0, jinB, jnat, clt, cle, ceq, cgt, cge, lI_add, lI_sub, lI_mul, jadd, jsub, jmul, jneg, jtol, b010, b011, pv_2t, Int.toNat_natCast, Option.some.injEq, exists_eq_left', if_true, if_false, A8]
            refine ihb (b + 1) _ _ _ _ _ (by omega) (f2.I (Or.inl rfl)) fun x' y' hxy => ?_
            rw [zI_s]
            by_cases z : x' = a ∧ y' = b
            · rw [if_pos ⟨rfl, by omega⟩, z.1, z.2, hx]
            · rw [if_neg (by omega)]
              exact dn2 x' y' (by omega)
          generalize abV (V a).2.2.2 (V b).2.2.2 = u at *
          generalize abV (V b).2.2.2 (V a).2.2.2 = w at *
          by_cases c1 : w < u
          · rw [if_pos c1] at en
            refine vs_ok 12 ?_
            rw [show ((gRes 212).drop 119).take 12 = [.lstore 5, .aload 0, .getfield 12122, .iconst 12, .iload 1, .imul, .iload 2, .iadd, .lload 3, .lload 5, .lcmp, .ifCond .le 133] from rfl]
            simp (disch := omega) only [vs_iadd, vs_imul, vs_lcmp, vs_iconst, vs_ifCond, vs_getfield, vs_aload0, vs_iload1, vs_iload2, vs_lload3, vs_lload5, vs_lstore5n, vs_lstore5i, vs_lstore5r, vs_lstore5l, vs_nil, gv_0, gv_1, gv_2, gv_3, pv_0, pv_1, va_rf_s, Nat.reduceDiv, Nat.reduceMod, Nat.reduceAdd, Nat.reduceMul, Int.reduceToNat, true_and, and_true, and_self, cP_eq, cP_ne, cP_lt, cP_ge, cP_gt, cP_le, eL_i, eL_l, eL_r, eL_n, Option.toList_none, Option.toList_some, List.nil_append, List.cons_append, kkI, llI, nnI, rrI, jjI, kkJ, llJ, nnJ, rrJ, iiJ, zIIs, zJJs, nEF, nET, and_false, false_and, jmin, jmax, catS_n, catS_i, catS_r, catS_l, Nat.reduceLeDiff, j1eq1, n21, jt0, jt1, Bool.false_eq_true, Classical.not_not, true_or, or_true, false_or, or_false, true_imp_iff, false_imp_iff, not_true_eq_false, not_false_eq_true, jif0, jif1, jifb, ltT, ltF, leT, leF, eqT, eqF, jlt, jle, jeq, jlt0, jle0, jeq0, jge0, jgt0, jinB, jnat, clt, cle, ceq, cgt, cge, lI_add, lI_sub, lI_mul, jadd, jsub, jmul, jneg, jtol, b010, b011, pv_2t, Int.toNat_natCast, Option.some.injEq, exists_eq_left', if_true, if_false, M2, A8, e8]
            refine vs_ok 2 ?_
            rw [show ((gRes 212).drop 131).take 2 = [.iconst 1, .goto 140] from rfl]
            simp (disch := omega) only [vs_iconst, vs_goto, vs_nil, gv_0, gv_1, gv_2, gv_3, pv_0, pv_1, va_rf_s, Nat.reduceDiv, Nat.reduceMod, Nat.reduceAdd, Nat.reduceMul, Int.reduceToNat, true_and, and_true, and_self, cP_eq, cP_ne, cP_lt, cP_ge, cP_gt, cP_le, eL_i, eL_l, eL_r, eL_n, Option.toList_none, Option.toList_some, List.nil_append, List.cons_append, kkI, llI, nnI, rrI, jjI, kkJ, llJ, nnJ, rrJ, iiJ, zIIs, zJJs, nEF, nET, and_false, false_and, jmin, jmax, catS_n, catS_i, catS_r, catS_l, Nat.reduceLeDiff, j1eq1, n21, jt0, jt1, Bool.false_eq_true, Classical.not_not, true_or, or_true, false_or, or_false, true_imp_iff, false_imp_iff, not_true_eq_false, not_false_eq_true, jif0, jif1, jifb, ltT, ltF, leT, leF, eqT, eqF, jlt, jle, jeq, jlt0, jle0, jeq0, jge0, jgt0, jinB, jnat, clt, cle, ceq, cgt, cge, lI_add, lI_sub, lI_mul, jadd, jsub, jmul, jneg, jtol, b010, b011, pv_2t, Int.toNat_natCast, Option.some.injEq, exists_eq_left', if_true, if_false]
            exact fin 1 _ _ _ _ en
          · rw [if_neg c1] at en
            by_cases c2 : u < w
            · rw [if_pos c2] at en
              refine vs_ok 12 ?_
              rw [show ((gRes 212).drop 119).take 12 = [.lstore 5, .aload 0, .getfield 12122, .iconst 12, .iload 1, .imul, .iload 2, .iadd, .lload 3, .lload 5, .lcmp, .ifCond .le 133] from rfl]
              simp (disch := omega) only [vs_iadd, vs_imul, vs_lcmp, vs_iconst, vs_ifCond, vs_getfield, vs_aload0, vs_iload1, vs_iload2, vs_lload3, vs_lload5, vs_lstore5n, vs_lstore5i, vs_lstore5r, vs_lstore5l, vs_nil, gv_0, gv_1, gv_2, gv_3, pv_0, pv_1, va_rf_s, Nat.reduceDiv, Nat.reduceMod, Nat.reduceAdd, Nat.reduceMul, Int.reduceToNat, true_and, and_true, and_self, cP_eq, cP_ne, cP_lt, cP_ge, cP_gt, cP_le, eL_i, eL_l, eL_r, eL_n, Option.toList_none, Option.toList_some, List.nil_append, List.cons_append, kkI, llI, nnI, rrI, jjI, kkJ, llJ, nnJ, rrJ, iiJ, zIIs, zJJs, nEF, nET, and_false, false_and, jmin, jmax, catS_n, catS_i, catS_r, catS_l, Nat.reduceLeDiff, j1eq1, n21, jt0, jt1, Bool.false_eq_true, Classical.not_not, true_or, or_true, false_or, or_false, true_imp_iff, false_imp_iff, not_true_eq_false, not_false_eq_true, jif0, jif1, jifb, ltT, ltF, leT, leF, eqT, eqF, jlt, jle, jeq, jlt0, jle0, jeq0, jge0, jgt0, jinB, jnat, clt, cle, ceq, cgt, cge, lI_add, lI_sub, lI_mul, jadd, jsub, jmul, jneg, jtol, b010, b011, pv_2t, Int.toNat_natCast, Option.some.injEq, exists_eq_left', if_true, if_false, M2, A8, e8]
              refine vs_ok 4 ?_
              rw [show ((gRes 212).drop 133).take 4 = [.lload 3, .lload 5, .lcmp, .ifCond .ge 139] from rfl]
              simp (disch := omega) only [vs_lcmp, vs_ifCond, vs_lload3, vs_lload5, vs_nil, gv_0, gv_1, gv_2, gv_3, pv_0, pv_1, va_rf_s, Nat.reduceDiv, Nat.reduceMod, Nat.reduceAdd, Nat.reduceMul, Int.reduceToNat, true_and, and_true, and_self, cP_eq, cP_ne, cP_lt, cP_ge, cP_gt, cP_le, eL_i, eL_l, eL_r, eL_n, Option.toList_none, Option.toList_some, List.nil_append, List.cons_append, kkI, llI, nnI, rrI, jjI, kkJ, llJ, nnJ, rrJ, iiJ, zIIs, zJJs, nEF, nET, and_false, false_and, jmin, jmax, catS_n, catS_i, catS_r, catS_l, Nat.reduceLeDiff, j1eq1, n21, jt0, jt1, Bool.false_eq_true, Classical.not_not, true_or, or_true, false_or, or_false, true_imp_iff, false_imp_iff, not_true_eq_false, not_false_eq_true, jif0, jif1, jifb, ltT, ltF, leT, leF, eqT, eqF, jlt, jle, jeq, jlt0, jle0, jeq0, jge0, jgt0, jinB, jnat, clt, cle, ceq, cgt, cge, lI_add, lI_sub, lI_mul, jadd, jsub, jmul, jneg, jtol, b010, b011, pv_2t, Int.toNat_natCast, Option.some.injEq, exists_eq_left', if_true, if_false]
              refine vs_ok 2 ?_
              rw [show ((gRes 212).drop 137).take 2 = [.iconst (-1), .goto 140] from rfl]
              simp (disch := omega) only [vs_iconst, vs_goto, vs_nil, gv_0, gv_1, gv_2, gv_3, pv_0, pv_1, va_rf_s, Nat.reduceDiv, Nat.reduceMod, Nat.reduceAdd, Nat.reduceMul, Int.reduceToNat, true_and, and_true, and_self, cP_eq, cP_ne, cP_lt, cP_ge, cP_gt, cP_le, eL_i, eL_l, eL_r, eL_n, Option.toList_none, Option.toList_some, List.nil_append, List.cons_append, kkI, llI, nnI, rrI, jjI, kkJ, llJ, nnJ, rrJ, iiJ, zIIs, zJJs, nEF, nET, and_false, false_and, jmin, jmax, catS_n, catS_i, catS_r, catS_l, Nat.reduceLeDiff, j1eq1, n21, jt0, jt1, Bool.false_eq_true, Classical.not_not, true_or, or_true, false_or, or_false, true_imp_iff, false_imp_iff, not_true_eq_false, not_false_eq_true, jif0, jif1, jifb, ltT, ltF, leT, leF, eqT, eqF, jlt, jle, jeq, jlt0, jle0, jeq0, jge0, jgt0, jinB, jnat, clt, cle, ceq, cgt, cge, lI_add, lI_sub, lI_mul, jadd, jsub, jmul, jneg, jtol, b010, b011, pv_2t, Int.toNat_natCast, Option.some.injEq, exists_eq_left', if_true, if_false]
              exact fin (-1) _ _ _ _ en
            · rw [if_neg c2] at en
              refine vs_ok 12 ?_
              rw [show ((gRes 212).drop 119).take 12 = [.lstore 5, .aload 0, .getfield 12122, .iconst 12, .iload 1, .imul, .iload 2, .iadd, .lload 3, .lload 5, .lcmp, .ifCond .le 133] from rfl]
              simp (disch := omega) only [vs_iadd, vs_imul, vs_lcmp, vs_iconst, vs_ifCond, vs_getfield, vs_aload0, vs_iload1, vs_iload2, vs_lload3, vs_lload5, vs_lstore5n, vs_lstore5i, vs_lstore5r, vs_lstore5l, vs_nil, gv_0, gv_1, gv_2, gv_3, pv_0, pv_1, va_rf_s, Nat.reduceDiv, Nat.reduceMod, Nat.reduceAdd, Nat.reduceMul, Int.reduceToNat, true_and, and_true, and_self, cP_eq, cP_ne, cP_lt, cP_ge, cP_gt, cP_le, eL_i, eL_l, eL_r, eL_n, Option.toList_none, Option.toList_some, List.nil_append, List.cons_append, kkI, llI, nnI, rrI, jjI, kkJ, llJ, nnJ, rrJ, iiJ, zIIs, zJJs, nEF, nET, and_false, false_and, jmin, jmax, catS_n, catS_i, catS_r, catS_l, Nat.reduceLeDiff, j1eq1, n21, jt0, jt1, Bool.false_eq_true, Classical.not_not, true_or, or_true, false_or, or_false, true_imp_iff, false_imp_iff, not_true_eq_false, not_false_eq_true, jif0, jif1, jifb, ltT, ltF, leT, leF, eqT, eqF, jlt, jle, jeq, jlt0, jle0, jeq0, jge0, jgt0, jinB, jnat, clt, cle, ceq, cgt, cge, lI_add, lI_sub, lI_mul, jadd, jsub, jmul, jneg, jtol, b010, b011, pv_2t, Int.toNat_natCast, Option.some.injEq, exists_eq_left', if_true, if_false, M2, A8, e8]
              refine vs_ok 4 ?_
              rw [show ((gRes 212).drop 133).take 4 = [.lload 3, .lload 5, .lcmp, .ifCond .ge 139] from rfl]
              simp (disch := omega) only [vs_lcmp, vs_ifCond, vs_lload3, vs_lload5, vs_nil, gv_0, gv_1, gv_2, gv_3, pv_0, pv_1, va_rf_s, Nat.reduceDiv, Nat.reduceMod, Nat.reduceAdd, Nat.reduceMul, Int.reduceToNat, true_and, and_true, and_self, cP_eq, cP_ne, cP_lt, cP_ge, cP_gt, cP_le, eL_i, eL_l, eL_r, eL_n, Option.toList_none, Option.toList_some, List.nil_append, List.cons_append, kkI, llI, nnI, rrI, jjI, kkJ, llJ, nnJ, rrJ, iiJ, zIIs, zJJs, nEF, nET, and_false, false_and, jmin, jmax, catS_n, catS_i, catS_r, catS_l, Nat.reduceLeDiff, j1eq1, n21, jt0, jt1, Bool.false_eq_true, Classical.not_not, true_or, or_true, false_or, or_false, true_imp_iff, false_imp_iff, not_true_eq_false, not_false_eq_true, jif0, jif1, jifb, ltT, ltF, leT, leF, eqT, eqF, jlt, jle, jeq, jlt0, jle0, jeq0, jge0, jgt0, jinB, jnat, clt, cle, ceq, cgt, cge, lI_add, lI_sub, lI_mul, jadd, jsub, jmul, jneg, jtol, b010, b011, pv_2t, Int.toNat_natCast, Option.some.injEq, exists_eq_left', if_true, if_false]
              refine vs_ok 1 ?_
              rw [show ((gRes 212).drop 139).take 1 = [.iconst 0] from rfl]
              simp (disch := omega) only [vs_iconst, vs_nil, gv_0, gv_1, gv_2, gv_3, pv_0, pv_1, va_rf_s, Nat.reduceDiv, Nat.reduceMod, Nat.reduceAdd, Nat.reduceMul, Int.reduceToNat, true_and, and_true, and_self, cP_eq, cP_ne, cP_lt, cP_ge, cP_gt, cP_le, eL_i, eL_l, eL_r, eL_n, Option.toList_none, Option.toList_some, List.nil_append, List.cons_append, kkI, llI, nnI, rrI, jjI, kkJ, llJ, nnJ, rrJ, iiJ, zIIs, zJJs, nEF, nET, and_false, false_and, jmin, jmax, catS_n, catS_i, catS_r, catS_l, Nat.reduceLeDiff, j1eq1, n21, jt0, jt1, Bool.false_eq_true, Classical.not_not, true_or, or_true, false_or, or_false, true_imp_iff, false_imp_iff, not_true_eq_false, not_false_eq_true, jif0, jif1, jifb, ltT, ltF, leT, leF, eqT, eqF, jlt, jle, jeq, jlt0, jle0, jeq0, jge0, jgt0, jinB, jnat, clt, cle, ceq, cgt, cge, lI_add, lI_sub, lI_mul, jadd, jsub, jmul, jneg, jtol, b010, b011, pv_2t, Int.toNat_natCast, Option.some.injEq, exists_eq_left', if_true, if_false]
              exact fin 0 _ _ _ _ en
      refine vs_ok 6 ?_
      rw [show ((gRes 212).drop 84).take 6 = [.iload 1, .aload 0, .getfield 12112, .iconst 0, .iaload, .if_icmp .ge 145] from rfl]
      simp (disch := omega) only [vs_iconst, vs_if_icmp, vs_getfield, vs_iaload, vs_aload0, vs_iload1, vs_nil, gv_0, gv_1, gv_2, gv_3, pv_0, pv_1, va_rf_s, Nat.reduceDiv, Nat.reduceMod, Nat.reduceAdd, Nat.reduceMul, Int.reduceToNat, true_and, and_true, and_self, cP_eq, cP_ne, cP_lt, cP_ge, cP_gt, cP_le, eL_i, eL_l, eL_r, eL_n, Option.toList_none, Option.toList_some, List.nil_append, List.cons_append, kkI, llI, nnI, rrI, jjI, kkJ, llJ, nnJ, rrJ, iiJ, zIIs, zJJs, nEF, nET, and_false, false_and, jmin, jmax, catS_n, catS_i, catS_r, catS_l, Nat.reduceLeDiff, j1eq1, n21, jt0, jt1, Bool.false_eq_true, Classical.not_not, true_or, or_true, false_or, or_false, true_imp_iff, false_imp_iff, not_true_eq_false, not_false_eq_true, jif0, jif1, jifb, ltT, ltF, leT, leF, eqT, eqF, jlt, jle, jeq, jlt0, jle0, jeq0, jge0, jgt0, jinB, jnat, clt, cle, ceq, cgt, cge, lI_add, lI_sub, lI_mul, jadd, jsub, jmul, jneg, jtol, b010, b011, pv_2t, Int.toNat_natCast, Option.some.injEq, exists_eq_left', if_true, if_false, M, A7, n0]
      refine vs_ok 2 ?_
      rw [show ((gRes 212).drop 90).take 2 = [.iconst 0, .istore 2] from rfl]
      simp (disch := omega) only [vs_iconst, vs_istore2n, vs_istore2i, vs_istore2r, vs_istore2l, vs_nil, gv_0, gv_1, gv_2, gv_3, pv_0, pv_1, va_rf_s, Nat.reduceDiv, Nat.reduceMod, Nat.reduceAdd, Nat.reduceMul, Int.reduceToNat, true_and, and_true, and_self, cP_eq, cP_ne, cP_lt, cP_ge, cP_gt, cP_le, eL_i, eL_l, eL_r, eL_n, Option.toList_none, Option.toList_some, List.nil_append, List.cons_append, kkI, llI, nnI, rrI, jjI, kkJ, llJ, nnJ, rrJ, iiJ, zIIs, zJJs, nEF, nET, and_false, false_and, jmin, jmax, catS_n, catS_i, catS_r, catS_l, Nat.reduceLeDiff, j1eq1, n21, jt0, jt1, Bool.false_eq_true, Classical.not_not, true_or, or_true, false_or, or_false, true_imp_iff, false_imp_iff, not_true_eq_false, not_false_eq_true, jif0, jif1, jifb, ltT, ltF, leT, leF, eqT, eqF, jlt, jle, jeq, jlt0, jle0, jeq0, jge0, jgt0, jinB, jnat, clt, cle, ceq, cgt, cge, lI_add, lI_sub, lI_mul, jadd, jsub, jmul, jneg, jtol, b010, b011, pv_2t, Int.toNat_natCast, Option.some.injEq, exists_eq_left', if_true, if_false]
      exact lpb n 0 g _ _ _ _ (by omega) f fun x y hxy => dn x y (by omega) (by omega)
  refine vs_ok 2 ?_
  rw [show ((gRes 212).drop 82).take 2 = [.iconst 0, .istore 1] from rfl]
  simp (disch := omega) only [vs_iconst, vs_istore1n, vs_istore1i, vs_istore1r, vs_istore1l, vs_nil, gv_0, gv_1, gv_2, gv_3, pv_0, pv_1, va_rf_s, Nat.reduceDiv, Nat.reduceMod, Nat.reduceAdd, Nat.reduceMul, Int.reduceToNat, true_and, and_true, and_self, cP_eq, cP_ne, cP_lt, cP_ge, cP_gt, cP_le, eL_i, eL_l, eL_r, eL_n, Option.toList_none, Option.toList_some, List.nil_append, List.cons_append, kkI, llI, nnI, rrI, jjI, kkJ, llJ, nnJ, rrJ, iiJ, zIIs, zJJs, nEF, nET, and_false, false_and, jmin, jmax, catS_n, catS_i, catS_r, catS_l, Nat.reduceLeDiff, j1eq1, n21, jt0, jt1, Bool.false_eq_true, Classical.not_not, true_or, or_true, false_or, or_false, true_imp_iff, false_imp_iff, not_true_eq_false, not_false_eq_true, jif0, jif1, jifb, ltT, ltF, leT, leF, eqT, eqF, jlt, jle, jeq, jlt0, jle0, jeq0, jge0, jgt0, jinB, jnat, clt, cle, ceq, cgt, cge, lI_add, lI_sub, lI_mul, jadd, jsub, jmul, jneg, jtol, b010, b011, pv_2t, Int.toNat_natCast, Option.some.injEq, exists_eq_left', if_true, if_false]
  exact lp n 0 g0 _ _ _ _ _ (by omega) fi.rf fun x y hx => absurd hx (by omega)
/-- the told half is kept -/
def cpC (h g : Hp) (m : Nat) : Prop := fi (fun q => q = m + 2 ∨ q = m + 3 ∨ q = m + 5 ∨ q = m + 6) h g ∧ (∀ s, 12 ≤ s → s < 49 → (∀ k, k < 401 → zJ g (m + 2) (401 * s + k) = zJ h (m + 2) (401 * s + k)) ∧ zJ g (m + 3) s = zJ h (m + 3) s) ∧ (∀ j, 12 ≤ j → zI g (m + 6) j = zI h (m + 6) j) ∧ ∀ j, 144 ≤ j → zI g (m + 5) j = zI h (m + 5) j
theorem cpC.tr {a b c : Hp} {m : Nat} (x : cpC a b m) (y : cpC b c m) : cpC a c m :=
  ⟨x.1.tr y.1, fun s h1 h2 => ⟨fun k hk => by rw [(y.2.1 s h1 h2).1 k hk, (x.2.1 s h1 h2).1 k hk], by rw [(y.2.1 s h1 h2).2, (x.2.1 s h1 h2).2]⟩, fun j hj => by rw [y.2.2.1 j hj, x.2.2.1 j hj], fun j hj => by rw [y.2.2.2 j hj, x.2.2.2 j hj]⟩
theorem t_M_adopt {D : Nat} {g0 : Hp} {m n : Nat} {F : Nat → Int} {V : Nat → RowVal} {fl : Nat → Nat → Int} {Q : Nat → Option Value → Hp → Prop} (hm : mO g0 m) (n12 : n ≤ 12) (h70 : zI g0 (m + 7) 0 = iI n) (sl : ∀ j, j < n → slV g0 m (12 + j) (V j) ∧ gV (V j)) (fs : faS g0 m 12 n F V fl)
    (hq : ∀ g, fi (fun q => q = m + 2 ∨ q = m + 3 ∨ q = m + 5 ∨ q = m + 6) g0 g → mnS g m n F V → faS g m 0 n F V fl → ∀ l1 l2 : Option Value, PW (D + 1) 212 82 [some (.ref m), l1, l2, none, none, none, none] [] g Q) : ∀ l1 l2 : Option Value, PW (D + 1) 212 31 [some (.ref m), l1, l2, none, none, none, none] [] g0 Q := by
  intro l1 l2
  have lp : ∀ (j k : Nat) (g : Hp) (l2 : Option Value), j + k = n → cpC g0 g m → (∀ i, i < k → slV g m i (V i)) → faS g m 0 k F V fl → PW (D + 1) 212 33 [some (.ref m), some (.int (iI k)), l2, none, none, none, none] [] g Q := by
    intro j
    induction j with
    | zero =>
      intro k g l2 hk c sg fg
      have hg := hm.fi c.1
      have M := hg.k
      have A7 := hg.nameMany
      have n0 : zI g (m + 7) 0 = iI n := by rw [c.1.1.2.2.2.2.2.1 (m + 7) (by omega)]; exact h70
      have ek : k = n := by omega
      subst ek
      refine vs_ok 6 ?_
      rw [show ((gRes 212).drop 33).take 6 = [.iload 1, .aload 0, .getfield 12112, .iconst 0, .iaload, .if_icmp .ge 82] from rfl]
      simp (disch := omega) only [vs_iconst, vs_if_icmp, vs_getfield, vs_iaload, vs_aload0, vs_iload1, vs_nil, gv_0, gv_1, gv_2, gv_3, pv_0, pv_1, va_rf_s, Nat.reduceDiv, Nat.reduceMod, Nat.reduceAdd, Nat.reduceMul, Int.reduceToNat, true_and, and_true, and_self, cP_eq, cP_ne, cP_lt, cP_ge, cP_gt, cP_le, eL_i, eL_l, eL_r, eL_n, Option.toList_none, Option.toList_some, List.nil_append, List.cons_append, kkI, llI, nnI, rrI, jjI, kkJ, llJ, nnJ, rrJ, iiJ, zIIs, zJJs, nEF, nET, and_false, false_and, jmin, jmax, catS_n, catS_i, catS_r, catS_l, Nat.reduceLeDiff, j1eq1, n21, jt0, jt1, Bool.false_eq_true, Classical.not_not, true_or, or_true, false_or, or_false, true_imp_iff, false_imp_iff, not_true_eq_false, not_false_eq_true, jif0, jif1, jifb, ltT, ltF, leT, leF, eqT, eqF, jlt, jle, jeq, jlt0, jle0, jeq0, jge0, jgt0, jinB, jnat, clt, cle, ceq, cgt, cge, lI_add, lI_sub, lI_mul, jadd, jsub, jmul, jneg, jtol, b010, b011, pv_2t, Int.toNat_natCast, Option.some.injEq, exists_eq_left', if_true, if_false, M, A7, n0]
      exact hq g c.1 ⟨n0, n12, fun i hi => ⟨by have := (fg i hi).1; rw [Nat.zero_add] at this; exact this, sg i hi, (sl i hi).2⟩⟩ fg _ _
    | succ j ih =>
      intro k g l2 hk c sg fg
      have hg := hm.fi c.1
      have M := hg.k
      have A7 := hg.nameMany
      have n0 : zI g (m + 7) 0 = iI n := by rw [c.1.1.2.2.2.2.2.1 (m + 7) (by omega)]; exact h70
      have e12 : (12 : Int) + (k : Int) = ((12 + k : Nat) : Int) := by omega
      have s12 : slV g m (12 + k) (V k) := ⟨fun i hi => by rw [(c.2.1 (12 + k) (by omega) (by omega)).1 i hi]; exact (sl k (by omega)).1.1 i hi, by rw [(c.2.1 (12 + k) (by omega) (by omega)).2]; exact (sl k (by omega)).1.2⟩
      refine vs_ok 6 ?_
      rw [show ((gRes 212).drop 33).take 6 = [.iload 1, .aload 0, .getfield 12112, .iconst 0, .iaload, .if_icmp .ge 82] from rfl]
      simp (disch := omega) only [vs_iconst, vs_if_icmp, vs_getfield, vs_iaload, vs_aload0, vs_iload1, vs_nil, gv_0, gv_1, gv_2, gv_3, pv_0, pv_1, va_rf_s, Nat.reduceDiv, Nat.reduceMod, Nat.reduceAdd, Nat.reduceMul, Int.reduceToNat, true_and, and_true, and_self, cP_eq, cP_ne, cP_lt, cP_ge, cP_gt, cP_le, eL_i, eL_l, eL_r, eL_n, Option.toList_none, Option.toList_some, List.nil_append, List.cons_append, kkI, llI, nnI, rrI, jjI, kkJ, llJ, nnJ, rrJ, iiJ, zIIs, zJJs, nEF, nET, and_false, false_and, jmin, jmax, catS_n, catS_i, catS_r, catS_l, Nat.reduceLeDiff, j1eq1, n21, jt0, jt1, Bool.false_eq_true, Classical.not_not, true_or, or_true, false_or, or_false, true_imp_iff, false_imp_iff, not_true_eq_false, not_false_eq_true, jif0, jif1, jifb, ltT, ltF, leT, leF, eqT, eqF, jlt, jle, jeq, jlt0, jle0, jeq0, jge0, jgt0, jinB, jnat, clt, cle, ceq, cgt, cge, lI_add, lI_sub, lI_mul, jadd, jsub, jmul, jneg, jtol, b010, b011, pv_2t, Int.toNat_natCast, Option.some.injEq, exists_eq_left', if_true, if_false, M, A7, n0]
      refine vs_ok 5 ?_
      rw [show ((gRes 212).drop 39).take 5 = [.aload 0, .iconst 12, .iload 1, .iadd, .iload 1] from rfl]
      simp (disch := omega) only [vs_iadd, vs_iconst, vs_aload0, vs_iload1, vs_nil, gv_0, gv_1, gv_2, gv_3, pv_0, pv_1, va_rf_s, Nat.reduceDiv, Nat.reduceMod, Nat.reduceAdd, Nat.reduceMul, Int.reduceToNat, true_and, and_true, and_self, cP_eq, cP_ne, cP_lt, cP_ge, cP_gt, cP_le, eL_i, eL_l, eL_r, eL_n, Option.toList_none, Option.toList_some, List.nil_append, List.cons_append, kkI, llI, nnI, rrI, jjI, kkJ, llJ, nnJ, rrJ, iiJ, zIIs, zJJs, nEF, nET, and_false, false_and, jmin, jmax, catS_n, catS_i, catS_r, catS_l, Nat.reduceLeDiff, j1eq1, n21, jt0, jt1, Bool.false_eq_true, Classical.not_not, true_or, or_true, false_or, or_false, true_imp_iff, false_imp_iff, not_true_eq_false, not_false_eq_true, jif0, jif1, jifb, ltT, ltF, leT, leF, eqT, eqF, jlt, jle, jeq, jlt0, jle0, jeq0, jge0, jgt0, jinB, jnat, clt, cle, ceq, cgt, cge, lI_add, lI_sub, lI_mul, jadd, jsub, jmul, jneg, jtol, b010, b011, pv_2t, Int.toNat_natCast, Option.some.injEq, exists_eq_left', if_true, if_false, e12]
      refine PW.iv rfl rfl rfl M.1 M.2 (le_b rfl) (le_b rfl) ?_
      refine t_M_copy (a := 12 + k) (b := k) hg (by omega) (by omega) s12 fun g1 c1 v1 => ⟨rfl, ⟨c1.1.1.2.2.1, rfl⟩, ?_⟩
      have h1 := hg.fi c1.1
      have M1 := h1.k
      have A6 := h1.faceMany
      have f12 := fs k (by omega)
      have y12 : zI g1 (m + 6) (12 + k) = iI (F k) := by rw [c1.2.2.2, c.2.2.1 (12 + k) (by omega)]; exact f12.1
      refine vs_ok 10 ?_
      rw [show ((gRes 212).drop 45).take 10 = [.aload 0, .getfield 12102, .iload 1, .aload 0, .getfield 12102, .iconst 12, .iload 1, .iadd, .iaload, .iastore] from rfl]
      simp (disch := omega) only [vs_iadd, vs_iconst, vs_getfield, vs_iaload, vs_iastore, vs_aload0, vs_iload1, vs_nil, gv_0, gv_1, gv_2, gv_3, pv_0, pv_1, va_rf_s, Nat.reduceDiv, Nat.reduceMod, Nat.reduceAdd, Nat.reduceMul, Int.reduceToNat, true_and, and_true, and_self, cP_eq, cP_ne, cP_lt, cP_ge, cP_gt, cP_le, eL_i, eL_l, eL_r, eL_n, Option.toList_none, Option.toList_some, List.nil_append, List.cons_append, kkI, llI, nnI, rrI, jjI, kkJ, llJ, nnJ, rrJ, iiJ, zIIs, zJJs, nEF, nET, and_false, false_and, jmin, jmax, catS_n, catS_i, catS_r, catS_l, Nat.reduceLeDiff, j1eq1, n21, jt0, jt1, Bool.false_eq_true, Classical.not_not, true_or, or_true, false_or, or_false, true_imp_iff, false_imp_iff, not_true_eq_false, not_false_eq_true, jif0, jif1, jifb, ltT, ltF, leT, leF, eqT, eqF, jlt, jle, jeq, jlt0, jle0, jeq0, jge0, jgt0, jinB, jnat, clt, cle, ceq, cgt, cge, lI_add, lI_sub, lI_mul, jadd, jsub, jmul, jneg, jtol, b010, b011, pv_2t, Int.toNat_natCast, Option.some.injEq, exists_eq_left', if_true, if_false, M1, A6, e12, y12]
      have p55 : ∀ g2, g2 = zsI g1 (m + 6) k (iI (F k)) → PW (D + 1) 212 55 [some (.ref m), some (.int (iI k)), l2, none, none, none, none] [] g2 Q := by
        intro g2 eg2
        have f2 : fi (fun q => q = m + 6) g1 g2 := by rw [eg2]; exact fi_I rfl
        have c2 : cpC g0 g2 m := by
          refine c.tr ⟨(c1.1.wk fun q z => by omega).tr (f2.wk fun q z => by omega), fun s h1 h2 => ⟨fun i hi => ?_, ?_⟩, fun j hj => ?_, fun j hj => ?_⟩
          · rw [f2.1.2.2.2.2.2.2.1 (m + 2) (by omega), c1.2.1 _ (by omega)]
          · rw [f2.1.2.2.2.2.2.2.1 (m + 3) (by omega), c1.2.2.1 _ (by omega)]
          · rw [eg2, zI_s, if_neg (by omega), c1.2.2.2]
          · rw [eg2, zI_s, if_neg (by omega), c1.2.2.2]
        have k2 : zI g2 (m + 6) k = iI (F k) := by rw [eg2, zI_s, if_pos ⟨rfl, rfl⟩]
        have o2 : ∀ j, j < k → zI g2 (m + 6) j = zI g (m + 6) j := fun j hj => by rw [eg2, zI_s, if_neg (by omega), c1.2.2.2]
        have o5 : ∀ j, zI g2 (m + 5) j = zI g (m + 5) j := fun j => by rw [eg2, zI_s, if_neg (by omega), c1.2.2.2]
        have s2 : ∀ i, i < k + 1 → slV g2 m i (V i) := fun i hi => by
          by_cases z : i = k
          · rw [z]
            exact v1.of (f2.1.2.2.2.2.2.2.1 _ (by omega)) (f2.1.2.2.2.2.2.2.1 _ (by omega))
          · exact (c1.o (sg i (by omega)) z).of (f2.1.2.2.2.2.2.2.1 _ (by omega)) (f2.1.2.2.2.2.2.2.1 _ (by omega))
        have h2 := h1.fi f2
        clear eg2
        have lp2 : ∀ (r i : Nat) (g3 : Hp), r + i = 12 → fi (fun q => q = m + 5) g2 g3 → (∀ t, t < i → zI g3 (m + 5) (12 * k + t) = zI g2 (m + 5) (12 * (12 + k) + t)) → (∀ t, ¬ (12 * k ≤ t ∧ t < 12 * k + 12) → zI g3 (m + 5) t = zI g2 (m + 5) t) → PW (D + 1) 212 57 [some (.ref m), some (.int (iI k)), some (.int (iI i)), none, none, none, none] [] g3 Q := by
          intro r
          induction r with
          | zero =>
            intro i g3 hi f3 d3 o3
            have ei : i = 12 := by omega
            subst ei
            have c3 : cpC g2 g3 m := ⟨f3.wk fun q z => by omega, fun s _ _ => ⟨fun i _ => by rw [f3.1.2.2.2.2.2.2.1 (m + 2) (by omega)], by rw [f3.1.2.2.2.2.2.2.1 (m + 3) (by omega)]⟩, fun j _ => by rw [f3.1.2.2.2.2.2.1 (m + 6) (by omega)], fun j hj => o3 j (by omega)⟩
            refine vs_ok 3 ?_
            rw [show ((gRes 212).drop 57).take 3 = [.iload 2, .iconst 12, .if_icmp .ge 80] from rfl]
            simp (disch := omega) only [vs_iconst, vs_if_icmp, vs_iload2, vs_nil, gv_0, gv_1, gv_2, gv_3, pv_0, pv_1, va_rf_s, Nat.reduceDiv, Nat.reduceMod, Nat.reduceAdd, Nat.reduceMul, Int.reduceToNat, true_and, and_true, and_self, cP_eq, cP_ne, cP_lt, cP_ge, cP_gt, cP_le, eL_i, eL_l, eL_r, eL_n, Option.toList_none, Option.toList_some, List.nil_append, List.cons_append, kkI, llI, nnI, rrI, jjI, kkJ, llJ, nnJ, rrJ, iiJ, zIIs, zJJs, nEF, nET, and_false, false_and, jmin, jmax, catS_n, catS_i, catS_r, catS_l, Nat.reduceLeDiff, j1eq1, n21, jt0, jt1, Bool.false_eq_true, Classical.not_not, true_or, or_true, false_or, or_false, true_imp_iff, false_imp_iff, not_true_eq_false, not_false_eq_true, jif0, jif1, jifb, ltT, ltF, leT, leF, eqT, eqF, jlt, jle, jeq, jlt0, jle0, jeq0, jge0, jgt0, jinB, jnat, clt, cle, ceq, cgt, cge, lI_add, lI_sub, lI_mul, jadd, jsub, jmul, jneg, jtol, b010, b011, pv_2t, Int.toNat_natCast, Option.some.injEq, exists_eq_left', if_true, if_false]
            refine vs_ok 2 ?_
            rw [show ((gRes 212).drop 80).take 2 = [.iinc 1 1, .goto 33] from rfl]
            simp (disch := omega) only [vs_goto, vs_iinc1n, vs_iinc1i, vs_iinc1r, vs_iinc1l, vs_nil, gv_0, gv_1, gv_2, gv_3, pv_0, pv_1, va_rf_s, Nat.reduceDiv, Nat.reduceMod, Nat.reduceAdd, Nat.reduceMul, Int.reduceToNat, true_and, and_true, and_self, cP_eq, cP_ne, cP_lt, cP_ge, cP_gt, cP_le, eL_i, eL_l, eL_r, eL_n, Option.toList_none, Option.toList_some, List.nil_append, List.cons_append, kkI, llI, nnI, rrI, jjI, kkJ, llJ, nnJ, rrJ, iiJ, zIIs, zJJs, nEF, nET, and_false, false_and, jmin, jmax, catS_n, catS_i, catS_r, catS_l, Nat.reduceLeDiff, j1eq1, n21, jt0, jt1, Bool.false_eq_true, Classical.not_not, true_or, or_true, false_or, or_false, true_imp_iff, false_imp_iff, not_true_eq_false, not_false_eq_true, jif0, jif1, jifb, ltT, ltF, leT, leF, eqT, eqF, jlt, jle, jeq, jlt0, jle0, jeq0, jge0, jgt0, jinB, jnat, clt, cle, ceq, cgt, cge, lI_add, lI_sub, lI_mul, jadd, jsub, jmul, jneg, jtol, b010, b011, pv_2t, Int.toNat_natCast, Option.some.injEq, exists_eq_left', if_true, if_false]
            refine ih (k + 1) g3 _ (by omega) (c2.tr c3) (fun i hi => (s2 i hi).of (f3.1.2.2.2.2.2.2.1 _ (by omega)) (f3.1.2.2.2.2.2.2.1 _ (by omega))) fun i hi => ?_
            by_cases z : i = k
            · subst z
              obtain ⟨q1, q2, q3⟩ := f12
              refine ⟨by rw [f3.1.2.2.2.2.2.1 (m + 6) (by omega), Nat.zero_add]; exact k2, q2, fun y => ⟨fun t ht => ?_, (q3 y).2⟩⟩
              rw [Nat.zero_add, d3 t (by omega), c2.2.2.2 _ (by omega)]
              exact (q3 y).1 t ht
            · obtain ⟨q1, q2, q3⟩ := fg i (by omega)
              refine ⟨by rw [f3.1.2.2.2.2.2.1 (m + 6) (by omega), o2 _ (by omega)]; exact q1, q2, fun y => ⟨fun t ht => ?_, (q3 y).2⟩⟩
              rw [o3 _ (by omega), o5]
              exact (q3 y).1 t ht
          | succ r ih2 =>
            intro i g3 hi f3 d3 o3
            have h3 := h2.fi f3
            have M3 := h3.k
            have A5 := h3.faces
            have ea : (12 : Int) * (k : Int) + (i : Int) = ((12 * k + i : Nat) : Int) := by omega
            have eb : (12 : Int) * ((12 + k : Nat) : Int) + (i : Int) = ((12 * (12 + k) + i : Nat) : Int) := by omega
            refine vs_ok 3 ?_
            rw [show ((gRes 212).drop 57).take 3 = [.iload 2, .iconst 12, .if_icmp .ge 80] from rfl]
            simp (disch := omega) only [vs_iconst, vs_if_icmp, vs_iload2, vs_nil, gv_0, gv_1, gv_2, gv_3, pv_0, pv_1, va_rf_s, Nat.reduceDiv, Nat.reduceMod, Nat.reduceAdd, Nat.reduceMul, Int.reduceToNat, true_and, and_true, and_self, cP_eq, cP_ne, cP_lt, cP_ge, cP_gt, cP_le, eL_i, eL_l, eL_r, eL_n, Option.toList_none, Option.toList_some, List.nil_append, List.cons_append, kkI, llI, nnI, rrI, jjI, kkJ, llJ, nnJ, rrJ, iiJ, zIIs, zJJs, nEF, nET, and_false, false_and, jmin, jmax, catS_n, catS_i, catS_r, catS_l, Nat.reduceLeDiff, j1eq1, n21, jt0, jt1, Bool.false_eq_true, Classical.not_not, true_or, or_true, false_or, or_false, true_imp_iff, false_imp_iff, not_true_eq_false, not_false_eq_true, jif0, jif1, jifb, ltT, ltF, leT, leF, eqT, eqF, jlt, jle, jeq, jlt0, jle0, jeq0, jge0, jgt0, jinB, jnat, clt, cle, ceq, cgt, cge, lI_add, lI_sub, lI_mul, jadd, jsub, jmul, jneg, jtol, b010, b011, pv_2t, Int.toNat_natCast, Option.some.injEq, exists_eq_left', if_true, if_false]
            refine vs_ok 20 ?_
            rw [show ((gRes 212).drop 60).take 20 = [.aload 0, .getfield 12092, .iconst 12, .iload 1, .imul, .iload 2, .iadd, .aload 0, .getfield 12092, .iconst 12, .iconst 12, .iload 1, .iadd, .imul, .iload 2, .iadd, .iaload, .iastore, .iinc 2 1, .goto 57] from rfl]
            simp (disch := omega) only [vs_iadd, vs_imul, vs_iconst, vs_goto, vs_getfield, vs_iaload, vs_iastore, vs_aload0, vs_iload1, vs_iload2, vs_iinc2n, vs_iinc2i, vs_iinc2r, vs_iinc2l, vs_nil, gv_0, gv_1, gv_2, gv_3, pv_0, pv_1, va_rf_s, Nat.reduceDiv, Nat.reduceMod, Nat.reduceAdd, Nat.reduceMul, Int.reduceToNat, true_and, and_true, and_self, cP_eq, cP_ne, cP_lt, cP_ge, cP_gt, cP_le, eL_i, eL_l, eL_r, eL_n, Option.toList_none, Option.toList_some, List.nil_append, List.cons_append, kkI, llI, nnI, rrI, jjI, kkJ, llJ, nnJ, rrJ, iiJ, zIIs, zJJs, nEF, nET, and_false, false_and, jmin, jmax, catS_n, catS_i, catS_r, catS_l, Nat.reduceLeDiff, j1eq1, n21, jt0, jt1, Bool.false_eq_true, Classical.not_not, true_or, or_true, false_or, or_false, true_imp_iff, false_imp_iff, not_true_eq_false, not_false_eq_true, jif0, jif1, jifb, ltT, ltF, leT, leF, eqT, eqF, jlt, jle, jeq, jlt0, jle0, jeq0, jge0, jgt0, jinB, jnat, clt, cle, ceq, cgt, cge, lI_add, lI_sub, lI_mul, jadd, jsub, jmul, jneg, jtol, b010, b011, pv_2t, Int.toNat_natCast, Option.some.injEq, exists_eq_left', if_true, if_false, M3, A5, e12, ea, eb]
            refine ih2 (i + 1) _ (by omega) (f3.I rfl) (fun t ht => ?_) (fun t ht => ?_)
            · rw [zI_s]
              by_cases z : t = i
              · rw [if_pos ⟨rfl, by omega⟩, z]
                exact o3 _ (by omega)
              · rw [if_neg (by omega)]
                exact d3 t (by omega)
            · rw [zI_s, if_neg (by omega)]
              exact o3 t ht
        refine vs_ok 2 ?_
        rw [show ((gRes 212).drop 55).take 2 = [.iconst 0, .istore 2] from rfl]
        simp (disch := omega) only [vs_iconst, vs_istore2n, vs_istore2i, vs_istore2r, vs_istore2l, vs_nil, gv_0, gv_1, gv_2, gv_3, pv_0, pv_1, va_rf_s, Nat.reduceDiv, Nat.reduceMod, Nat.reduceAdd, Nat.reduceMul, Int.reduceToNat, true_and, and_true, and_self, cP_eq, cP_ne, cP_lt, cP_ge, cP_gt, cP_le, eL_i, eL_l, eL_r, eL_n, Option.toList_none, Option.toList_some, List.nil_append, List.cons_append, kkI, llI, nnI, rrI, jjI, kkJ, llJ, nnJ, rrJ, iiJ, zIIs, zJJs, nEF, nET, and_false, false_and, jmin, jmax, catS_n, catS_i, catS_r, catS_l, Nat.reduceLeDiff, j1eq1, n21, jt0, jt1, Bool.false_eq_true, Classical.not_not, true_or, or_true, false_or, or_false, true_imp_iff, false_imp_iff, not_true_eq_false, not_false_eq_true, jif0, jif1, jifb, ltT, ltF, leT, leF, eqT, eqF, jlt, jle, jeq, jlt0, jle0, jeq0, jge0, jgt0, jinB, jnat, clt, cle, ceq, cgt, cge, lI_add, lI_sub, lI_mul, jadd, jsub, jmul, jneg, jtol, b010, b011, pv_2t, Int.toNat_natCast, Option.some.injEq, exists_eq_left', if_true, if_false]
        exact lp2 12 0 g2 (by omega) fi.rf (fun t ht => absurd ht (by omega)) (fun t _ => rfl)
      exact p55 _ rfl
  refine vs_ok 2 ?_
  rw [show ((gRes 212).drop 31).take 2 = [.iconst 0, .istore 1] from rfl]
  simp (disch := omega) only [vs_iconst, vs_istore1n, vs_istore1i, vs_istore1r, vs_istore1l, vs_nil, gv_0, gv_1, gv_2, gv_3, pv_0, pv_1, va_rf_s, Nat.reduceDiv, Nat.reduceMod, Nat.reduceAdd, Nat.reduceMul, Int.reduceToNat, true_and, and_true, and_self, cP_eq, cP_ne, cP_lt, cP_ge, cP_gt, cP_le, eL_i, eL_l, eL_r, eL_n, Option.toList_none, Option.toList_some, List.nil_append, List.cons_append, kkI, llI, nnI, rrI, jjI, kkJ, llJ, nnJ, rrJ, iiJ, zIIs, zJJs, nEF, nET, and_false, false_and, jmin, jmax, catS_n, catS_i, catS_r, catS_l, Nat.reduceLeDiff, j1eq1, n21, jt0, jt1, Bool.false_eq_true, Classical.not_not, true_or, or_true, false_or, or_false, true_imp_iff, false_imp_iff, not_true_eq_false, not_false_eq_true, jif0, jif1, jifb, ltT, ltF, leT, leF, eqT, eqF, jlt, jle, jeq, jlt0, jle0, jeq0, jge0, jgt0, jinB, jnat, clt, cle, ceq, cgt, cge, lI_add, lI_sub, lI_mul, jadd, jsub, jmul, jneg, jtol, b010, b011, pv_2t, Int.toNat_natCast, Option.some.injEq, exists_eq_left', if_true, if_false]
  exact lp n 0 g0 _ (by omega) ⟨fi.rf, fun _ _ _ => ⟨fun _ _ => rfl, rfl⟩, fun _ _ => rfl, fun _ _ => rfl⟩ (fun i hi => absurd hi (by omega)) (fun i hi => absurd hi (by omega))
theorem t_M_table {D : Nat} {h : Hp} {m len : Nat} {va : Int} {B F0 Wd0 : Nat → Int} {V0 : Nat → RowVal} {R : TRes} {Q : Nat → Option Value → Hp → Prop} (hm : mO h m) (ht : mtS h m len B) (h7 : zI h m 7 = iI 0 ∨ zI h m 7 = iI 1) (hva : 0 ≤ va ∧ va ≤ 400000000) (hR : tlS B len 13 0 F0 Wd0 V0 (adF B len 0 va) = some R)
    (hT : R.1 = 0 → ∀ g fl, fi (fun q => q = m ∨ (m + 2 ≤ q ∧ q ≤ m + 14)) h g → (∀ i, i ≠ 0 → i ≠ 2 → i ≠ 3 → i ≠ 4 → i ≠ 7 → i ≠ 17 → i ≠ 18 → i ≠ 19 → i ≠ 20 → i ≠ 21 → i ≠ 22 → zI g m i = zI h m i) → mtS g m 0 B → zI g m 0 = iI 0 → zI g m 21 = iI 0 → (zI g m 7 = iI 0 ∨ zI g m 7 = iI 1) → mnS g m R.2.2.1 R.2.2.2.1 R.2.2.2.2.2 → faS g m 0 R.2.2.1 R.2.2.2.1 R.2.2.2.2.2 fl → netS g m R.2.2.1 R.2.2.2.2.2 → Q 0 (some (.int (iI R.2.2.1))) g)
    (hF : R.1 ≠ 0 → ∀ g, fi (fun q => q = m ∨ (m + 2 ≤ q ∧ q ≤ m + 7) ∨ (m + 9 ≤ q ∧ q ≤ m + 12)) h g → (∀ i, i ≠ 0 → i ≠ 2 → i ≠ 3 → i ≠ 4 → i ≠ 7 → i ≠ 17 → i ≠ 18 → i ≠ 19 → i ≠ 20 → i ≠ 21 → i ≠ 22 → zI g m i = zI h m i) → mtS g m 0 B → zI g m 0 = iI 0 → zI g m 21 = iI R.1 → (zI g m 7 = iI 0 ∨ zI g m 7 = iI 1) → (∀ s W t, s < 12 → slW h m s W t → slW g m s W t) → (∀ j, j < 12 → zI g (m + 6) j = zI h (m + 6) j) → (∀ j, j < 144 → zI g (m + 5) j = zI h (m + 5) j) → zI g (m + 7) 0 = zI h (m + 7) 0 → Q 0 (some (.int (iI (-1 - R.2.1)))) g) : PR (D + 7) m_M_table [.ref m] h Q := by
  have M := hm.k
  show PW (D + 7) 212 0 [some (.ref m), none, none, none, none, none, none] [] h Q
  refine vs_ok 3 ?_
  rw [show ((gRes 212).drop 0).take 3 = [.aload 0, .iconst 0, .putfield 12000] from rfl]
  simp (disch := omega) only [vs_iconst, vs_putfield, vs_aload0, vs_nil, gv_0, gv_1, gv_2, gv_3, pv_0, pv_1, va_rf_s, Nat.reduceDiv, Nat.reduceMod, Nat.reduceAdd, Nat.reduceMul, Int.reduceToNat, true_and, and_true, and_self, cP_eq, cP_ne, cP_lt, cP_ge, cP_gt, cP_le, eL_i, eL_l, eL_r, eL_n, Option.toList_none, Option.toList_some, List.nil_append, List.cons_append, kkI, llI, nnI, rrI, jjI, kkJ, llJ, nnJ, rrJ, iiJ, zIIs, zJJs, nEF, nET, and_false, false_and, jmin, jmax, catS_n, catS_i, catS_r, catS_l, Nat.reduceLeDiff, j1eq1, n21, jt0, jt1, Bool.false_eq_true, Classical.not_not, true_or, or_true, false_or, or_false, true_imp_iff, false_imp_iff, not_true_eq_false, not_false_eq_true, jif0, jif1, jifb, ltT, ltF, leT, leF, eqT, eqF, jlt, jle, jeq, jlt0, jle0, jeq0, jge0, jgt0, jinB, jnat, clt, cle, ceq, cgt, cge, lI_add, lI_sub, lI_mul, jadd, jsub, jmul, jneg, jtol, b010, b011, pv_2t, Int.toNat_natCast, Option.some.injEq, exists_eq_left', if_true, if_false, M]
  have t0 := mt0_s (h := h) (m := m) 0
  have hm0 := hm.fi t0.1
  have tp0 := ht.fi t0.1 (t0.2.1 2 (by omega)) (by omega)
  generalize zsI h m 0 (iI 0) = g0 at *
  have M0 := hm0.k
  refine vs_ok 1 ?_
  rw [show ((gRes 212).drop 3).take 1 = [.aload 0] from rfl]
  simp (disch := omega) only [vs_aload0, vs_nil, gv_0, gv_1, gv_2, gv_3, pv_0, pv_1, va_rf_s, Nat.reduceDiv, Nat.reduceMod, Nat.reduceAdd, Nat.reduceMul, Int.reduceToNat, true_and, and_true, and_self, cP_eq, cP_ne, cP_lt, cP_ge, cP_gt, cP_le, eL_i, eL_l, eL_r, eL_n, Option.toList_none, Option.toList_some, List.nil_append, List.cons_append, kkI, llI, nnI, rrI, jjI, kkJ, llJ, nnJ, rrJ, iiJ, zIIs, zJJs, nEF, nET, and_false, false_and, jmin, jmax, catS_n, catS_i, catS_r, catS_l, Nat.reduceLeDiff, j1eq1, n21, jt0, jt1, Bool.false_eq_true, Classical.not_not, true_or, or_true, false_or, or_false, true_imp_iff, false_imp_iff, not_true_eq_false, not_false_eq_true, jif0, jif1, jifb, ltT, ltF, leT, leF, eqT, eqF, jlt, jle, jeq, jlt0, jle0, jeq0, jge0, jgt0, jinB, jnat, clt, cle, ceq, cgt, cge, lI_add, lI_sub, lI_mul, jadd, jsub, jmul, jneg, jtol, b010, b011, pv_2t, Int.toNat_natCast, Option.some.injEq, exists_eq_left', if_true, if_false]
  refine PW.iv rfl rfl rfl M0.1 M0.2 (le_b rfl) (le_b rfl) ?_
  refine t_M_taken hm0 tp0 fun g1 f1 tp1 y3 y4 o1 => ⟨rfl, ⟨f1.1.2.2.1, rfl⟩, ?_⟩
  have hm1 := hm0.fi f1
  have M1 := hm1.k
  have A7 := hm1.nameMany
  refine vs_ok 8 ?_
  rw [show ((gRes 212).drop 5).take 8 = [.aload 0, .iconst 0, .putfield 12210, .aload 0, .getfield 12112, .iconst 1, .iconst 0, .iastore] from rfl]
  simp (disch := omega) only [vs_iconst, vs_getfield, vs_putfield, vs_iastore, vs_aload0, vs_nil, gv_0, gv_1, gv_2, gv_3, pv_0, pv_1, va_rf_s, Nat.reduceDiv, Nat.reduceMod, Nat.reduceAdd, Nat.reduceMul, Int.reduceToNat, true_and, and_true, and_self, cP_eq, cP_ne, cP_lt, cP_ge, cP_gt, cP_le, eL_i, eL_l, eL_r, eL_n, Option.toList_none, Option.toList_some, List.nil_append, List.cons_append, kkI, llI, nnI, rrI, jjI, kkJ, llJ, nnJ, rrJ, iiJ, zIIs, zJJs, nEF, nET, and_false, false_and, jmin, jmax, catS_n, catS_i, catS_r, catS_l, Nat.reduceLeDiff, j1eq1, n21, jt0, jt1, Bool.false_eq_true, Classical.not_not, true_or, or_true, false_or, or_false, true_imp_iff, false_imp_iff, not_true_eq_false, not_false_eq_true, jif0, jif1, jifb, ltT, ltF, leT, leF, eqT, eqF, jlt, jle, jeq, jlt0, jle0, jeq0, jge0, jgt0, jinB, jnat, clt, cle, ceq, cgt, cge, lI_add, lI_sub, lI_mul, jadd, jsub, jmul, jneg, jtol, b010, b011, pv_2t, Int.toNat_natCast, Option.some.injEq, exists_eq_left', if_true, if_false, M1, A7]
  have p13 : ∀ g2, g2 = zsI (zsI g1 m 21 (iI 0)) (m + 7) 1 (iI 0) → PW (D + 7) 212 13 [some (.ref m), none, none, none, none, none, none] [] g2 Q := by
    intro g2 eg2
    have f2 : fi (fun q => q = m ∨ q = m + 7) g1 g2 := by rw [eg2]; exact (fi_I (Or.inl rfl)).I (Or.inr rfl)
    have oz : ∀ i, i ≠ 21 → zI g2 m i = zI g1 m i := fun i hi => by rw [eg2, zI_s, if_neg (by omega), zI_s, if_neg (by omega)]
    have o21 : zI g2 m 21 = iI 0 := by rw [eg2, zI_s, if_neg (by omega), zI_s, if_pos ⟨rfl, rfl⟩]
    have o71 : zI g2 (m + 7) 1 = iI 0 := by rw [eg2, zI_s, if_pos ⟨rfl, rfl⟩]
    have o70 : zI g2 (m + 7) 0 = zI h (m + 7) 0 := by rw [eg2, zI_s, if_neg (by omega), zI_s, if_neg (by omega), f1.1.2.2.2.2.2.1 (m + 7) (by omega), t0.1.1.2.2.2.2.2.1 (m + 7) (by omega)]
    clear eg2
    have hm2 := hm1.fi f2
    have M2 := hm2.k
    have b2 : zI g2 m 7 = iI 0 ∨ zI g2 m 7 = iI 1 := by
      rw [oz 7 (by omega), o1 7 (by omega) (by omega) (by omega), t0.2.1 7 (by omega)]
      exact h7
    have fh2 : fi (fun q => q = m ∨ q = m + 7) h g2 := ((t0.1.wk fun q z => Or.inl z).tr (f1.wk fun q z => Or.inl z)).tr f2
    have tp2 : mtS g2 m 0 B := tp1.fi f2 (oz 2 (by omega)) (by omega)
    have xg : nxG g2 m len 0 B := ⟨hm2, by rw [oz 3 (by omega)]; exact y3, ht.2.1, by rw [oz 4 (by omega)]; exact y4, by omega, tp2.2.2.1, tp2.2.2.2⟩
    refine vs_ok 1 ?_
    rw [show ((gRes 212).drop 13).take 1 = [.aload 0] from rfl]
    simp (disch := omega) only [vs_aload0, vs_nil, gv_0, gv_1, gv_2, gv_3, pv_0, pv_1, va_rf_s, Nat.reduceDiv, Nat.reduceMod, Nat.reduceAdd, Nat.reduceMul, Int.reduceToNat, true_and, and_true, and_self, cP_eq, cP_ne, cP_lt, cP_ge, cP_gt, cP_le, eL_i, eL_l, eL_r, eL_n, Option.toList_none, Option.toList_some, List.nil_append, List.cons_append, kkI, llI, nnI, rrI, jjI, kkJ, llJ, nnJ, rrJ, iiJ, zIIs, zJJs, nEF, nET, and_false, false_and, jmin, jmax, catS_n, catS_i, catS_r, catS_l, Nat.reduceLeDiff, j1eq1, n21, jt0, jt1, Bool.false_eq_true, Classical.not_not, true_or, or_true, false_or, or_false, true_imp_iff, false_imp_iff, not_true_eq_false, not_false_eq_true, jif0, jif1, jifb, ltT, ltF, leT, leF, eqT, eqF, jlt, jle, jeq, jlt0, jle0, jeq0, jge0, jgt0, jinB, jnat, clt, cle, ceq, cgt, cge, lI_add, lI_sub, lI_mul, jadd, jsub, jmul, jneg, jtol, b010, b011, pv_2t, Int.toNat_natCast, Option.some.injEq, exists_eq_left', if_true, if_false]
    refine PW.iv rfl rfl rfl M2.1 M2.2 (le_b rfl) (le_b rfl) ?_
    refine t_M_next (fo := 0) (va := va) xg (Or.inl rfl) fun g3 c3 e3 => ⟨rfl, ⟨c3.1.1.2.2.1, rfl⟩, ?_⟩
    obtain ⟨tm, htm⟩ : ∃ tm : Bool, zI g3 m 7 = iI (if tm = true then 1 else 0) := by
      have e7 := c3.2 7 (by omega) (by omega) (by omega) (by omega) (by omega)
      rcases b2 with z | z
      · exact ⟨false, by rw [e7, z]; rfl⟩
      · exact ⟨true, by rw [e7, z]; rfl⟩
    have x3 : suG g3 m len 0 B Wd0 V0 (adF B len 0 va) tm := ⟨e3, ad_tk ht.2.2.2 (by have := ht.2.1; omega) (by omega) hva, ⟨by rw [c3.1.1.2.2.2.2.2.1 (m + 7) (by omega)]; exact o71, by omega, fun k hk => absurd hk (by omega)⟩, htm⟩
    have M3 := x3.m.k
    -- what is kept up to here
    have k3 : ∀ g, rdF g3 g m → fi (fun q => q = m ∨ (m + 2 ≤ q ∧ q ≤ m + 7) ∨ (m + 9 ≤ q ∧ q ≤ m + 12)) h g ∧ (∀ i, i ≠ 0 → i ≠ 2 → i ≠ 3 → i ≠ 4 → i ≠ 7 → i ≠ 17 → i ≠ 18 → i ≠ 19 → i ≠ 20 → i ≠ 21 → i ≠ 22 → zI g m i = zI h m i) ∧ mtS g m 0 B ∧ zI g m 0 = iI 0 := fun g r => by
      refine ⟨((fh2.wk fun q z => by omega).tr (c3.1.wk fun q z => by omega)).tr (r.1.wk fun q z => by omega), fun i i0 i2 i3 i4 i7 i17 i18 i19 i20 i21 i22 => ?_, ?_, ?_⟩
      · rw [r.2.1 i i4 i17 i18 i19 i20 i7 i21 i22, c3.2 i i4 i17 i18 i19 i20, oz i i21, o1 i i2 i3 i4, t0.2.1 i i0]
      · have q := (tp2.fi c3.1 (c3.2 2 (by omega) (by omega) (by omega) (by omega) (by omega)) (by omega))
        exact q.fi r.1 (r.2.1 2 (by omega) (by omega) (by omega) (by omega) (by omega) (by omega) (by omega) (by omega)) (by omega)
      · rw [r.2.1 0 (by omega) (by omega) (by omega) (by omega) (by omega) (by omega) (by omega) (by omega), c3.2 0 (by omega) (by omega) (by omega) (by omega) (by omega), oz 0 (by omega), o1 0 (by omega) (by omega) (by omega)]
        exact t0.2.2
    have z21 : zI g3 m 21 = iI 0 := by rw [c3.2 21 (by omega) (by omega) (by omega) (by omega) (by omega)]; exact o21
    refine vs_ok 1 ?_
    rw [show ((gRes 212).drop 15).take 1 = [.aload 0] from rfl]
    simp (disch := omega) only [vs_aload0, vs_nil, gv_0, gv_1, gv_2, gv_3, pv_0, pv_1, va_rf_s, Nat.reduceDiv, Nat.reduceMod, Nat.reduceAdd, Nat.reduceMul, Int.reduceToNat, true_and, and_true, and_self, cP_eq, cP_ne, cP_lt, cP_ge, cP_gt, cP_le, eL_i, eL_l, eL_r, eL_n, Option.toList_none, Option.toList_some, List.nil_append, List.cons_append, kkI, llI, nnI, rrI, jjI, kkJ, llJ, nnJ, rrJ, iiJ, zIIs, zJJs, nEF, nET, and_false, false_and, jmin, jmax, catS_n, catS_i, catS_r, catS_l, Nat.reduceLeDiff, j1eq1, n21, jt0, jt1, Bool.false_eq_true, Classical.not_not, true_or, or_true, false_or, or_false, true_imp_iff, false_imp_iff, not_true_eq_false, not_false_eq_true, jif0, jif1, jifb, ltT, ltF, leT, leF, eqT, eqF, jlt, jle, jeq, jlt0, jle0, jeq0, jge0, jgt0, jinB, jnat, clt, cle, ceq, cgt, cge, lI_add, lI_sub, lI_mul, jadd, jsub, jmul, jneg, jtol, b010, b011, pv_2t, Int.toNat_natCast, Option.some.injEq, exists_eq_left', if_true, if_false]
    refine PW.iv rfl rfl rfl M3.1 M3.2 (le_b rfl) (le_b rfl) ?_
    refine t_M_read (D := D) x3 hR (fun z g4 fl s4 tm4 r4 n12 x4 f4 => ⟨rfl, ⟨r4.1.1.2.2.1, rfl⟩, ?_⟩) (fun z g4 r4 h21 h22 => ⟨rfl, ⟨r4.1.1.2.2.1, rfl⟩, ?_⟩)
    · obtain ⟨q1, q2, q3, q4⟩ := k3 g4 r4.bf
      have M4 := x4.m.k
      have B7 := x4.m.nameMany
      have n1 := x4.2.2.1.1
      have w21 : zI g4 m 21 = iI 0 := by rw [r4.2.1 21 (by omega) (by omega) (by omega) (by omega) (by omega) (by omega)]; exact z21
      refine vs_ok 1 ?_
      rw [show ((gRes 212).drop 17).take 1 = [.ifCond .ne 23] from rfl]
      simp (disch := omega) only [vs_ifCond, vs_nil, gv_0, gv_1, gv_2, gv_3, pv_0, pv_1, va_rf_s, Nat.reduceDiv, Nat.reduceMod, Nat.reduceAdd, Nat.reduceMul, Int.reduceToNat, true_and, and_true, and_self, cP_eq, cP_ne, cP_lt, cP_ge, cP_gt, cP_le, eL_i, eL_l, eL_r, eL_n, Option.toList_none, Option.toList_some, List.nil_append, List.cons_append, kkI, llI, nnI, rrI, jjI, kkJ, llJ, nnJ, rrJ, iiJ, zIIs, zJJs, nEF, nET, and_false, false_and, jmin, jmax, catS_n, catS_i, catS_r, catS_l, Nat.reduceLeDiff, j1eq1, n21, jt0, jt1, Bool.false_eq_true, Classical.not_not, true_or, or_true, false_or, or_false, true_imp_iff, false_imp_iff, not_true_eq_false, not_false_eq_true, jif0, jif1, jifb, ltT, ltF, leT, leF, eqT, eqF, jlt, jle, jeq, jlt0, jle0, jeq0, jge0, jgt0, jinB, jnat, clt, cle, ceq, cgt, cge, lI_add, lI_sub, lI_mul, jadd, jsub, jmul, jneg, jtol, b010, b011, pv_2t, Int.toNat_natCast, Option.some.injEq, exists_eq_left', if_true, if_false]
      refine vs_ok 8 ?_
      rw [show ((gRes 212).drop 23).take 8 = [.aload 0, .getfield 12112, .iconst 0, .aload 0, .getfield 12112, .iconst 1, .iaload, .iastore] from rfl]
      simp (disch := omega) only [vs_iconst, vs_getfield, vs_iaload, vs_iastore, vs_aload0, vs_nil, gv_0, gv_1, gv_2, gv_3, pv_0, pv_1, va_rf_s, Nat.reduceDiv, Nat.reduceMod, Nat.reduceAdd, Nat.reduceMul, Int.reduceToNat, true_and, and_true, and_self, cP_eq, cP_ne, cP_lt, cP_ge, cP_gt, cP_le, eL_i, eL_l, eL_r, eL_n, Option.toList_none, Option.toList_some, List.nil_append, List.cons_append, kkI, llI, nnI, rrI, jjI, kkJ, llJ, nnJ, rrJ, iiJ, zIIs, zJJs, nEF, nET, and_false, false_and, jmin, jmax, catS_n, catS_i, catS_r, catS_l, Nat.reduceLeDiff, j1eq1, n21, jt0, jt1, Bool.false_eq_true, Classical.not_not, true_or, or_true, false_or, or_false, true_imp_iff, false_imp_iff, not_true_eq_false, not_false_eq_true, jif0, jif1, jifb, ltT, ltF, leT, leF, eqT, eqF, jlt, jle, jeq, jlt0, jle0, jeq0, jge0, jgt0, jinB, jnat, clt, cle, ceq, cgt, cge, lI_add, lI_sub, lI_mul, jadd, jsub, jmul, jneg, jtol, b010, b011, pv_2t, Int.toNat_natCast, Option.some.injEq, exists_eq_left', if_true, if_false, M4, B7, n1]
      have p31 : ∀ g5, g5 = zsI g4 (m + 7) 0 (iI R.2.2.1) → PW (D + 7) 212 31 [some (.ref m), none, none, none, none, none, none] [] g5 Q := by
        intro g5 eg5
        have f5 : fi (fun q => q = m + 7) g4 g5 := by rw [eg5]; exact fi_I rfl
        have o5 : zI g5 (m + 7) 0 = iI R.2.2.1 := by rw [eg5, zI_s, if_pos ⟨rfl, rfl⟩]
        clear eg5
        have hm5 := x4.m.fi f5
        have em : ∀ i, zI g5 m i = zI g4 m i := fun i => by rw [f5.1.2.2.2.2.2.1 m (by omega)]
        refine t_M_adopt (D := D + 6) hm5 n12 o5 (fun j hj => ⟨(x4.2.2.1.2.2 j hj).2.2.1.of (f5.1.2.2.2.2.2.2.1 _ (by omega)) (f5.1.2.2.2.2.2.2.1 _ (by omega)), (x4.2.2.1.2.2 j hj).2.2.2⟩) (f4.of (fun j _ _ => by rw [f5.1.2.2.2.2.2.1 (m + 6) (by omega)]) (fun j _ _ => by rw [f5.1.2.2.2.2.2.1 (m + 5) (by omega)])) (fun g6 f6 ns6 fs6 l1 l2 => ?_) _ _
        refine t_M_net (D := D + 6) (hm5.fi f6) ns6 (fun g7 f7 nt7 => ?_) _ _ _ _ _ _
        have fz : fi (fun q => q = m ∨ (m + 2 ≤ q ∧ q ≤ m + 14)) h g7 := (((q1.wk fun q z => by omega).tr (f5.wk fun q z => by omega)).tr (f6.wk fun q z => by omega)).tr (f7.wk fun q z => by omega)
        have ez : ∀ i, zI g7 m i = zI g4 m i := fun i => by rw [f7.1.2.2.2.2.2.1 m (by omega), f6.1.2.2.2.2.2.1 m (by omega), em]
        refine hT z g7 fl fz (fun i i0 i2 i3 i4 i7 i17 i18 i19 i20 i21 i22 => by rw [ez, q2 i i0 i2 i3 i4 i7 i17 i18 i19 i20 i21 i22]) ?_ (by rw [ez]; exact q4) (by rw [ez]; exact w21) (by rw [ez]; exact x4.b7) (ns6.fi f7 (by omega) (by omega) (by omega) (by omega)) (fs6.of (fun j _ _ => by rw [f7.1.2.2.2.2.2.1 (m + 6) (by omega)]) (fun j _ _ => by rw [f7.1.2.2.2.2.2.1 (m + 5) (by omega)])) nt7
        have ff := (f5.wk fun q z => (by omega : q = m ∨ (m + 2 ≤ q ∧ q ≤ m + 14))).tr ((f6.wk fun q z => by omega).tr (f7.wk fun q z => by omega))
        exact q3.fi ff (ez 2) (by omega)
      exact p31 _ rfl
    · obtain ⟨q1, q2, q3, q4⟩ := k3 g4 r4
      have M4 := (hm.fi q1).k
      refine vs_ok 1 ?_
      rw [show ((gRes 212).drop 17).take 1 = [.ifCond .ne 23] from rfl]
      simp (disch := omega) only [vs_ifCond, vs_nil, gv_0, gv_1, gv_2, gv_3, pv_0, pv_1, va_rf_s, Nat.reduceDiv, Nat.reduceMod, Nat.reduceAdd, Nat.reduceMul, Int.reduceToNat, true_and, and_true, and_self, cP_eq, cP_ne, cP_lt, cP_ge, cP_gt, cP_le, eL_i, eL_l, eL_r, eL_n, Option.toList_none, Option.toList_some, List.nil_append, List.cons_append, kkI, llI, nnI, rrI, jjI, kkJ, llJ, nnJ, rrJ, iiJ, zIIs, zJJs, nEF, nET, and_false, false_and, jmin, jmax, catS_n, catS_i, catS_r, catS_l, Nat.reduceLeDiff, j1eq1, n21, jt0, jt1, Bool.false_eq_true, Classical.not_not, true_or, or_true, false_or, or_false, true_imp_iff, false_imp_iff, not_true_eq_false, not_false_eq_true, jif0, jif1, jifb, ltT, ltF, leT, leF, eqT, eqF, jlt, jle, jeq, jlt0, jle0, jeq0, jge0, jgt0, jinB, jnat, clt, cle, ceq, cgt, cge, lI_add, lI_sub, lI_mul, jadd, jsub, jmul, jneg, jtol, b010, b011, pv_2t, Int.toNat_natCast, Option.some.injEq, exists_eq_left', if_true, if_false]
      refine vs_ok 3 ?_
      rw [show ((gRes 212).drop 18).take 3 = [.iconst (-1), .aload 0, .getfield 12220] from rfl]
      simp (disch := omega) only [vs_iconst, vs_getfield, vs_aload0, vs_nil, gv_0, gv_1, gv_2, gv_3, pv_0, pv_1, va_rf_s, Nat.reduceDiv, Nat.reduceMod, Nat.reduceAdd, Nat.reduceMul, Int.reduceToNat, true_and, and_true, and_self, cP_eq, cP_ne, cP_lt, cP_ge, cP_gt, cP_le, eL_i, eL_l, eL_r, eL_n, Option.toList_none, Option.toList_some, List.nil_append, List.cons_append, kkI, llI, nnI, rrI, jjI, kkJ, llJ, nnJ, rrJ, iiJ, zIIs, zJJs, nEF, nET, and_false, false_and, jmin, jmax, catS_n, catS_i, catS_r, catS_l, Nat.reduceLeDiff, j1eq1, n21, jt0, jt1, Bool.false_eq_true, Classical.not_not, true_or, or_true, false_or, or_false, true_imp_iff, false_imp_iff, not_true_eq_false, not_false_eq_true, jif0, jif1, jifb, ltT, ltF, leT, leF, eqT, eqF, jlt, jle, jeq, jlt0, jle0, jeq0, jge0, jgt0, jinB, jnat, clt, cle, ceq, cgt, cge, lI_add, lI_sub, lI_mul, jadd, jsub, jmul, jneg, jtol, b010, b011, pv_2t, Int.toNat_natCast, Option.some.injEq, exists_eq_left', if_true, if_false, M4, h22.1]
      refine vs_ok 2 ?_
      rw [show ((gRes 212).drop 21).take 2 = [.isub, .ireturn] from rfl, vs_isub, vs_ireturn]
      refine ⟨Or.inl rfl, ?_⟩
      rw [jsub]
      refine hF z g4 q1 q2 q3 q4 h21 h22.2 (fun s W t hs w => ?_) (fun j hj => ?_) (fun j hj => ?_) ?_
      · refine ⟨fun k hk => ?_, ?_⟩
        · rw [(r4.2.2.1 s hs).1 k hk, c3.1.1.2.2.2.2.2.2.1 (m + 2) (by omega), fh2.1.2.2.2.2.2.2.1 (m + 2) (by omega)]
          exact w.1 k hk
        · rw [(r4.2.2.1 s hs).2, c3.1.1.2.2.2.2.2.2.1 (m + 3) (by omega), fh2.1.2.2.2.2.2.2.1 (m + 3) (by omega)]
          exact w.2
      · rw [r4.2.2.2.1 j hj, c3.1.1.2.2.2.2.2.1 (m + 6) (by omega), fh2.1.2.2.2.2.2.1 (m + 6) (by omega)]
      · rw [r4.2.2.2.2.1 j hj, c3.1.1.2.2.2.2.2.1 (m + 5) (by omega), fh2.1.2.2.2.2.2.1 (m + 5) (by omega)]
      · rw [r4.2.2.2.2.2, c3.1.1.2.2.2.2.2.1 (m + 7) (by omega), o70]
  exact p13 _ rfl
