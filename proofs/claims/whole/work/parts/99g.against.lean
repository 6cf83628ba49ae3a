/-! DiceRing: against, beats -/
/-- two NAMES thrown k times each -/
def th2V (V : Nat → RowVal) (nm a b k : Int) : Option (RowVal × RowVal) := if (0 ≤ a ∧ a < nm) ∧ (0 ≤ b ∧ b < nm) ∧ 1 ≤ k ∧ k ≤ 4 then (thrV (V a.toNat) (k.toNat - 1)).bind fun w => (thrV (V b.toNat) (k.toNat - 1)).map fun u => (w, u) else none
theorem th2_none {V : Nat → RowVal} {nm a b k : Int} (h : ¬ ((0 ≤ a ∧ a < nm) ∧ (0 ≤ b ∧ b < nm) ∧ 1 ≤ k ∧ k ≤ 4) ∨ thrV (V a.toNat) (k.toNat - 1) = none ∨ thrV (V b.toNat) (k.toNat - 1) = none) : th2V V nm a b k = none := by
  unfold th2V
  by_cases c : (0 ≤ a ∧ a < nm) ∧ (0 ≤ b ∧ b < nm) ∧ 1 ≤ k ∧ k ≤ 4
  · rw [if_pos c]
    rcases h with h | h | h
    · exact absurd c h
    · rw [h]
      rfl
    · rw [h]
      cases thrV (V a.toNat) (k.toNat - 1) <;> rfl
  · rw [if_neg c]
theorem th2_some {V : Nat → RowVal} {nm a b k : Int} {w u : RowVal} (c : (0 ≤ a ∧ a < nm) ∧ (0 ≤ b ∧ b < nm) ∧ 1 ≤ k ∧ k ≤ 4) (h1 : thrV (V a.toNat) (k.toNat - 1) = some w) (h2 : thrV (V b.toNat) (k.toNat - 1) = some u) : th2V V nm a b k = some (w, u) := by
  unfold th2V
  rw [if_pos c, h1, h2]
  rfl
/-- what `against` answers -/
def agV (o : Option (RowVal × RowVal)) (c : Int) : Int := match o with
  | none => -1
  | some (w, u) => if c = 0 then abV w.2.2.2 u.2.2.2 else if c = 1 then abV u.2.2.2 w.2.2.2 else pS (fun n => w.2.2.2 n * u.2.2.2 n) 1000
theorem t_against {d : Nat} {h : Hp} {x t : Nat} {nm a b k c : Int} {F Wd : Nat → Int} {V : Nat → RowVal} {Q : Nat → Option Value → Hp → Prop} (N : zK h x = 11 ∧ x < zN h) (h2 : zR h x 2 = some t) (hb : isTb h t nm F Wd) (hv : ∀ k, k < 12 → rowP h (t + 4 + 2 * k) 200 (V k)) (hg : ∀ k : Nat, (k : Int) < nm → gV (V k)) (ht : thS h x) (hd : x < t ∧ t + 28 ≤ x + 155) (ha : i32 a) (hbb : i32 b) (hk : i32 k) (hc : i32 c)
    (hq : ∀ g, fr (thC x) h g → thS g x → Q 0 (some (.long (lI (if 0 ≤ c ∧ c ≤ 2 then agV (th2V V nm a b k) c else -1)))) g) : PR (d + 5) m_D_against [.ref x, .int (iI a), .int (iI b), .int (iI k), .int (iI c)] h Q := by
  have c1 := hc.1
  have c2 := hc.2
  show PW (d + 5) 151 0 [some (.ref x), some (.int (iI a)), some (.int (iI b)), some (.int (iI k)), some (.int (iI c))] [] h Q
  by_cases cc : 0 ≤ c ∧ c ≤ 2
  · rw [if_pos cc] at hq
    refine vs_ok 9 ?_
    rw [show ((gRes 151).drop 0).take 9 = [.iload 4, .ifCond .lt 11, .iload 4, .iconst 2, .if_icmp .gt 11, .aload 0, .iload 1, .iload 2, .iload 3] from rfl]
    simp (disch := omega) only [vs_iconst, vs_if_icmp, vs_ifCond, vs_aload0, vs_iload1, vs_iload2, vs_iload3, vs_iload4, vs_nil, gv_0, gv_1, gv_2, gv_3, pv_0, pv_1, va_rf_s, Nat.reduceDiv, Nat.reduceMod, Nat.reduceAdd, Nat.reduceMul, Int.reduceToNat, true_and, and_true, and_self, cP_eq, cP_ne, cP_lt, cP_ge, cP_gt, cP_le, eL_i, eL_l, eL_r, eL_n, Option.toList_none, Option.toList_some, List.nil_append, List.cons_append, kkI, llI, nnI, rrI, jjI, kkJ, llJ, nnJ, rrJ, iiJ, zIIs, zJJs, nEF, nET, and_false, false_and, jmin, jmax, catS_n, catS_i, catS_r, catS_l, Nat.reduceLeDiff, j1eq1, n21, jt0, jt1, Bool.false_eq_true, Classical.not_not, true_or, or_true, false_or, or_false, true_imp_iff, false_imp_iff, not_true_eq_false, not_false_eq_true, jif0, jif1, jifb, ltT, ltF, leT, leF, eqT, eqF, jlt, jle, jeq, jlt0, jle0, jeq0, jge0, jgt0, jinB, jnat, clt, cle, ceq, cgt, cge, lI_add, lI_sub, lI_mul, jadd, jsub, jmul, jneg, jtol, b010, b011, pv_2t, Int.toNat_natCast, Option.some.injEq, exists_eq_left', if_true, if_false]
    refine PW.iv rfl rfl rfl N.1 N.2 (le_b rfl) (le_b rfl) ?_
    refine t_throwBoth (d := d) N h2 hb hv hg ht hd ha hbb hk (fun bad g f t' => ⟨rfl, ⟨f.2.2.1, rfl⟩, ?_⟩) fun w u ok hw hu gw gu g f r1 r2 t' => ⟨rfl, ⟨f.2.2.1, rfl⟩, ?_⟩
    · have z := hq g f t'
      rw [th2_none bad] at z
      refine vs_ok 1 ?_
      rw [show ((gRes 151).drop 10).take 1 = [.ifCond .ne 13] from rfl]
      simp (disch := omega) only [vs_ifCond, vs_nil, gv_0, gv_1, gv_2, gv_3, pv_0, pv_1, va_rf_s, Nat.reduceDiv, Nat.reduceMod, Nat.reduceAdd, Nat.reduceMul, Int.reduceToNat, true_and, and_true, and_self, cP_eq, cP_ne, cP_lt, cP_ge, cP_gt, cP_le, eL_i, eL_l, eL_r, eL_n, Option.toList_none, Option.toList_some, List.nil_append, List.cons_append, kkI, llI, nnI, rrI, jjI, kkJ, llJ, nnJ, rrJ, iiJ, zIIs, zJJs, nEF, nET, and_false, false_and, jmin, jmax, catS_n, catS_i, catS_r, catS_l, Nat.reduceLeDiff, j1eq1, n21, jt0, jt1, Bool.false_eq_true, Classical.not_not, true_or, or_true, false_or, or_false, true_imp_iff, false_imp_iff, not_true_eq_false, not_false_eq_true, jif0, jif1, jifb, ltT, ltF, leT, leF, eqT, eqF, jlt, jle, jeq, jlt0, jle0, jeq0, jge0, jgt0, jinB, jnat, clt, cle, ceq, cgt, cge, lI_add, lI_sub, lI_mul, jadd, jsub, jmul, jneg, jtol, b010, b011, pv_2t, Int.toNat_natCast, Option.some.injEq, exists_eq_left', if_true, if_false]
      refine vs_ok 2 ?_
      rw [show ((gRes 151).drop 11).take 2 = [.jsr_w (-1), .lreturn] from rfl]
      simp (disch := omega) only [vs_jsr_w, vs_lreturn, vs_nil, gv_0, gv_1, gv_2, gv_3, pv_0, pv_1, va_rf_s, Nat.reduceDiv, Nat.reduceMod, Nat.reduceAdd, Nat.reduceMul, Int.reduceToNat, true_and, and_true, and_self, cP_eq, cP_ne, cP_lt, cP_ge, cP_gt, cP_le, eL_i, eL_l, eL_r, eL_n, Option.toList_none, Option.toList_some, List.nil_append, List.cons_append, kkI, llI, nnI, rrI, jjI, kkJ, llJ, nnJ, rrJ, iiJ, zIIs, zJJs, nEF, nET, and_false, false_and, jmin, jmax, catS_n, catS_i, catS_r, catS_l, Nat.reduceLeDiff, j1eq1, n21, jt0, jt1, Bool.false_eq_true, Classical.not_not, true_or, or_true, false_or, or_false, true_imp_iff, false_imp_iff, not_true_eq_false, not_false_eq_true, jif0, jif1, jifb, ltT, ltF, leT, leF, eqT, eqF, jlt, jle, jeq, jlt0, jle0, jeq0, jge0, jgt0, jinB, jnat, clt, cle, ceq, cgt, cge, lI_add, lI_sub, lI_mul, jadd, jsub, jmul, jneg, jtol, b010, b011, pv_2t, Int.toNat_natCast, Option.some.injEq, exists_eq_left', if_true, if_false, show gRc 151 = 3 from rfl]
      exact z
    · have z := hq g f t'
      rw [th2_some ok hw hu] at z
      have N' : zK g x = 11 ∧ x < zN g := ⟨by rw [f.1]; exact N.1, by rw [f.2.2.1]; exact N.2⟩
      have y13 := t'.1.1
      have y14 := t'.1.2.1
      replace z : Q 0 (some (.long (lI (if c = 0 then abV w.2.2.2 u.2.2.2 else if c = 1 then abV u.2.2.2 w.2.2.2 else pS (fun n => w.2.2.2 n * u.2.2.2 n) 1000)))) g := z
      by_cases e0 : c = 0
      · rw [if_pos e0] at z
        refine vs_ok 4 ?_
        rw [show ((gRes 151).drop 10).take 4 = [.ifCond .ne 13, .jsr_w (-1), .lreturn, .iload 4] from rfl]
        simp (disch := omega) only [vs_jsr_w, vs_ifCond, vs_lreturn, vs_iload4, vs_nil, gv_0, gv_1, gv_2, gv_3, pv_0, pv_1, va_rf_s, Nat.reduceDiv, Nat.reduceMod, Nat.reduceAdd, Nat.reduceMul, Int.reduceToNat, true_and, and_true, and_self, cP_eq, cP_ne, cP_lt, cP_ge, cP_gt, cP_le, eL_i, eL_l, eL_r, eL_n, Option.toList_none, Option.toList_some, List.nil_append, List.cons_append, kkI, llI, nnI, rrI, jjI, kkJ, llJ, nnJ, rrJ, iiJ, zIIs, zJJs, nEF, nET, and_false, false_and, jmin, jmax, catS_n, catS_i, catS_r, catS_l, Nat.reduceLeDiff, j1eq1, n21, jt0, jt1, Bool.false_eq_true, Classical.not_not, true_or, or_true, false_or, or_false, true_imp_iff, false_imp_iff, not_true_eq_false, not_false_eq_true, jif0, jif1, jifb, ltT, ltF, leT, leF, eqT, eqF, jlt, jle, jeq, jlt0, jle0, jeq0, jge0, jgt0, jinB, jnat, clt, cle, ceq, cgt, cge, lI_add, lI_sub, lI_mul, jadd, jsub, jmul, jneg, jtol, b010, b011, pv_2t, Int.toNat_natCast, Option.some.injEq, exists_eq_left', if_true, if_false, show gRc 151 = 3 from rfl]
        refine vs_ok 2 ?_
        rw [show ((gRes 151).drop 13).take 2 = [.iload 4, .ifCond .ne 21] from rfl]
        simp (disch := omega) only [vs_ifCond, vs_iload4, vs_nil, gv_0, gv_1, gv_2, gv_3, pv_0, pv_1, va_rf_s, Nat.reduceDiv, Nat.reduceMod, Nat.reduceAdd, Nat.reduceMul, Int.reduceToNat, true_and, and_true, and_self, cP_eq, cP_ne, cP_lt, cP_ge, cP_gt, cP_le, eL_i, eL_l, eL_r, eL_n, Option.toList_none, Option.toList_some, List.nil_append, List.cons_append, kkI, llI, nnI, rrI, jjI, kkJ, llJ, nnJ, rrJ, iiJ, zIIs, zJJs, nEF, nET, and_false, false_and, jmin, jmax, catS_n, catS_i, catS_r, catS_l, Nat.reduceLeDiff, j1eq1, n21, jt0, jt1, Bool.false_eq_true, Classical.not_not, true_or, or_true, false_or, or_false, true_imp_iff, false_imp_iff, not_true_eq_false, not_false_eq_true, jif0, jif1, jifb, ltT, ltF, leT, leF, eqT, eqF, jlt, jle, jeq, jlt0, jle0, jeq0, jge0, jgt0, jinB, jnat, clt, cle, ceq, cgt, cge, lI_add, lI_sub, lI_mul, jadd, jsub, jmul, jneg, jtol, b010, b011, pv_2t, Int.toNat_natCast, Option.some.injEq, exists_eq_left', if_true, if_false]
        refine vs_ok 4 ?_
        rw [show ((gRes 151).drop 15).take 4 = [.aload 0, .getfield 11132, .aload 0, .getfield 11142] from rfl]
        simp (disch := omega) only [vs_getfield, vs_aload0, vs_nil, gv_0, gv_1, gv_2, gv_3, pv_0, pv_1, va_rf_s, Nat.reduceDiv, Nat.reduceMod, Nat.reduceAdd, Nat.reduceMul, Int.reduceToNat, true_and, and_true, and_self, cP_eq, cP_ne, cP_lt, cP_ge, cP_gt, cP_le, eL_i, eL_l, eL_r, eL_n, Option.toList_none, Option.toList_some, List.nil_append, List.cons_append, kkI, llI, nnI, rrI, jjI, kkJ, llJ, nnJ, rrJ, iiJ, zIIs, zJJs, nEF, nET, and_false, false_and, jmin, jmax, catS_n, catS_i, catS_r, catS_l, Nat.reduceLeDiff, j1eq1, n21, jt0, jt1, Bool.false_eq_true, Classical.not_not, true_or, or_true, false_or, or_false, true_imp_iff, false_imp_iff, not_true_eq_false, not_false_eq_true, jif0, jif1, jifb, ltT, ltF, leT, leF, eqT, eqF, jlt, jle, jeq, jlt0, jle0, jeq0, jge0, jgt0, jinB, jnat, clt, cle, ceq, cgt, cge, lI_add, lI_sub, lI_mul, jadd, jsub, jmul, jneg, jtol, b010, b011, pv_2t, Int.toNat_natCast, Option.some.injEq, exists_eq_left', if_true, if_false, N', y13, y14]
        refine PW.iv rfl rfl rfl r1.1.1 r1.1.2.1 (le_b rfl) (le_b rfl) ?_
        refine t_above r1 r2 ⟨rfl, ⟨rfl, rfl⟩, ?_⟩
        refine vs_ok 1 ?_
        rw [show ((gRes 151).drop 20).take 1 = [.lreturn] from rfl]
        simp (disch := omega) only [vs_lreturn, vs_nil, gv_0, gv_1, gv_2, gv_3, pv_0, pv_1, va_rf_s, Nat.reduceDiv, Nat.reduceMod, Nat.reduceAdd, Nat.reduceMul, Int.reduceToNat, true_and, and_true, and_self, cP_eq, cP_ne, cP_lt, cP_ge, cP_gt, cP_le, eL_i, eL_l, eL_r, eL_n, Option.toList_none, Option.toList_some, List.nil_append, List.cons_append, kkI, llI, nnI, rrI, jjI, kkJ, llJ, nnJ, rrJ, iiJ, zIIs, zJJs, nEF, nET, and_false, false_and, jmin, jmax, catS_n, catS_i, catS_r, catS_l, Nat.reduceLeDiff, j1eq1, n21, jt0, jt1, Bool.false_eq_true, Classical.not_not, true_or, or_true, false_or, or_false, true_imp_iff, false_imp_iff, not_true_eq_false, not_false_eq_true, jif0, jif1, jifb, ltT, ltF, leT, leF, eqT, eqF, jlt, jle, jeq, jlt0, jle0, jeq0, jge0, jgt0, jinB, jnat, clt, cle, ceq, cgt, cge, lI_add, lI_sub, lI_mul, jadd, jsub, jmul, jneg, jtol, b010, b011, pv_2t, Int.toNat_natCast, Option.some.injEq, exists_eq_left', if_true, if_false, show gRc 151 = 3 from rfl]
        exact z
      rw [if_neg e0] at z
      by_cases e1 : c = 1
      · rw [if_pos e1] at z
        refine vs_ok 4 ?_
        rw [show ((gRes 151).drop 10).take 4 = [.ifCond .ne 13, .jsr_w (-1), .lreturn, .iload 4] from rfl]
        simp (disch := omega) only [vs_jsr_w, vs_ifCond, vs_lreturn, vs_iload4, vs_nil, gv_0, gv_1, gv_2, gv_3, pv_0, pv_1, va_rf_s, Nat.reduceDiv, Nat.reduceMod, Nat.reduceAdd, Nat.reduceMul, Int.reduceToNat, true_and, and_true, and_self, cP_eq, cP_ne, cP_lt, cP_ge, cP_gt, cP_le, eL_i, eL_l, eL_r, eL_n, Option.toList_none, Option.toList_some, List.nil_append, List.cons_append, kkI, llI, nnI, rrI, jjI, kkJ, llJ, nnJ, rrJ, iiJ, zIIs, zJJs, nEF, nET, and_false, false_and, jmin, jmax, catS_n, catS_i, catS_r, catS_l, Nat.reduceLeDiff, j1eq1, n21, jt0, jt1, Bool.false_eq_true, Classical.not_not, true_or, or_true, false_or, or_false, true_imp_iff, false_imp_iff, not_true_eq_false, not_false_eq_true, jif0, jif1, jifb, ltT, ltF, leT, leF, eqT, eqF, jlt, jle, jeq, jlt0, jle0, jeq0, jge0, jgt0, jinB, jnat, clt, cle, ceq, cgt, cge, lI_add, lI_sub, lI_mul, jadd, jsub, jmul, jneg, jtol, b010, b011, pv_2t, Int.toNat_natCast, Option.some.injEq, exists_eq_left', if_true, if_false, show gRc 151 = 3 from rfl]
        refine vs_ok 2 ?_
        rw [show ((gRes 151).drop 13).take 2 = [.iload 4, .ifCond .ne 21] from rfl]
        simp (disch := omega) only [vs_ifCond, vs_iload4, vs_nil, gv_0, gv_1, gv_2, gv_3, pv_0, pv_1, va_rf_s, Nat.reduceDiv, Nat.reduceMod, Nat.reduceAdd, Nat.reduceMul, Int.reduceToNat, true_and, and_true, and_self, cP_eq, cP_ne, cP_lt, cP_ge, cP_gt, cP_le, eL_i, eL_l, eL_r, eL_n, Option.toList_none, Option.toList_some, List.nil_append, List.cons_append, kkI, llI, nnI, rrI, jjI, kkJ, llJ, nnJ, rrJ, iiJ, zIIs, zJJs, nEF, nET, and_false, false_and, jmin, jmax, catS_n, catS_i, catS_r, catS_l, Nat.reduceLeDiff, j1eq1, n21, jt0, jt1, Bool.false_eq_true, Classical.not_not, true_or, or_true, false_or, or_false, true_imp_iff, false_imp_iff, not_true_eq_false, not_false_eq_true, jif0, jif1, jifb, ltT, ltF, leT, leF, eqT, eqF, jlt, jle, jeq, jlt0, jle0, jeq0, jge0, jgt0, jinB, jnat, clt, cle, ceq, cgt, cge, lI_add, lI_sub, lI_mul, jadd, jsub, jmul, jneg, jtol, b010, b011, pv_2t, Int.toNat_natCast, Option.some.injEq, exists_eq_left', if_true, if_false]
        refine vs_ok 3 ?_
        rw [show ((gRes 151).drop 21).take 3 = [.iload 4, .iconst 1, .if_icmp .ne 30] from rfl]
        simp (disch := omega) only [vs_iconst, vs_if_icmp, vs_iload4, vs_nil, gv_0, gv_1, gv_2, gv_3, pv_0, pv_1, va_rf_s, Nat.reduceDiv, Nat.reduceMod, Nat.reduceAdd, Nat.reduceMul, Int.reduceToNat, true_and, and_true, and_self, cP_eq, cP_ne, cP_lt, cP_ge, cP_gt, cP_le, eL_i, eL_l, eL_r, eL_n, Option.toList_none, Option.toList_some, List.nil_append, List.cons_append, kkI, llI, nnI, rrI, jjI, kkJ, llJ, nnJ, rrJ, iiJ, zIIs, zJJs, nEF, nET, and_false, false_and, jmin, jmax, catS_n, catS_i, catS_r, catS_l, Nat.reduceLeDiff, j1eq1, n21, jt0, jt1, Bool.false_eq_true, Classical.not_not, true_or, or_true, false_or, or_false, true_imp_iff, false_imp_iff, not_true_eq_false, not_false_eq_true, jif0, jif1, jifb, ltT, ltF, leT, leF, eqT, eqF, jlt, jle, jeq, jlt0, jle0, jeq0, jge0, jgt0, jinB, jnat, clt, cle, ceq, cgt, cge, lI_add, lI_sub, lI_mul, jadd, jsub, jmul, jneg, jtol, b010, b011, pv_2t, Int.toNat_natCast, Option.some.injEq, exists_eq_left', if_true, if_false]
        refine vs_ok 4 ?_
        rw [show ((gRes 151).drop 24).take 4 = [.aload 0, .getfield 11142, .aload 0, .getfield 11132] from rfl]
        simp (disch := omega) only [vs_getfield, vs_aload0, vs_nil, gv_0, gv_1, gv_2, gv_3, pv_0, pv_1, va_rf_s, Nat.reduceDiv, Nat.reduceMod, Nat.reduceAdd, Nat.reduceMul, Int.reduceToNat, true_and, and_true, and_self, cP_eq, cP_ne, cP_lt, cP_ge, cP_gt, cP_le, eL_i, eL_l, eL_r, eL_n, Option.toList_none, Option.toList_some, List.nil_append, List.cons_append, kkI, llI, nnI, rrI, jjI, kkJ, llJ, nnJ, rrJ, iiJ, zIIs, zJJs, nEF, nET, and_false, false_and, jmin, jmax, catS_n, catS_i, catS_r, catS_l, Nat.reduceLeDiff, j1eq1, n21, jt0, jt1, Bool.false_eq_true, Classical.not_not, true_or, or_true, false_or, or_false, true_imp_iff, false_imp_iff, not_true_eq_false, not_false_eq_true, jif0, jif1, jifb, ltT, ltF, leT, leF, eqT, eqF, jlt, jle, jeq, jlt0, jle0, jeq0, jge0, jgt0, jinB, jnat, clt, cle, ceq, cgt, cge, lI_add, lI_sub, lI_mul, jadd, jsub, jmul, jneg, jtol, b010, b011, pv_2t, Int.toNat_natCast, Option.some.injEq, exists_eq_left', if_true, if_false, N', y13, y14]
        refine PW.iv rfl rfl rfl r2.1.1 r2.1.2.1 (le_b rfl) (le_b rfl) ?_
        refine t_above r2 r1 ⟨rfl, ⟨rfl, rfl⟩, ?_⟩
        refine vs_ok 1 ?_
        rw [show ((gRes 151).drop 29).take 1 = [.goto 35] from rfl]
        simp (disch := omega) only [vs_goto, vs_nil, gv_0, gv_1, gv_2, gv_3, pv_0, pv_1, va_rf_s, Nat.reduceDiv, Nat.reduceMod, Nat.reduceAdd, Nat.reduceMul, Int.reduceToNat, true_and, and_true, and_self, cP_eq, cP_ne, cP_lt, cP_ge, cP_gt, cP_le, eL_i, eL_l, eL_r, eL_n, Option.toList_none, Option.toList_some, List.nil_append, List.cons_append, kkI, llI, nnI, rrI, jjI, kkJ, llJ, nnJ, rrJ, iiJ, zIIs, zJJs, nEF, nET, and_false, false_and, jmin, jmax, catS_n, catS_i, catS_r, catS_l, Nat.reduceLeDiff, j1eq1, n21, jt0, jt1, Bool.false_eq_true, Classical.not_not, true_or, or_true, false_or, or_false, true_imp_iff, false_imp_iff, not_true_eq_false, not_false_eq_true, jif0, jif1, jifb, ltT, ltF, leT, leF, eqT, eqF, jlt, jle, jeq, jlt0, jle0, jeq0, jge0, jgt0, jinB, jnat, clt, cle, ceq, cgt, cge, lI_add, lI_sub, lI_mul, jadd, jsub, jmul, jneg, jtol, b010, b011, pv_2t, Int.toNat_natCast, Option.some.injEq, exists_eq_left', if_true, if_false]
        refine vs_ok 1 ?_
        rw [show ((gRes 151).drop 35).take 1 = [.lreturn] from rfl]
        simp (disch := omega) only [vs_lreturn, vs_nil, gv_0, gv_1, gv_2, gv_3, pv_0, pv_1, va_rf_s, Nat.reduceDiv, Nat.reduceMod, Nat.reduceAdd, Nat.reduceMul, Int.reduceToNat, true_and, and_true, and_self, cP_eq, cP_ne, cP_lt, cP_ge, cP_gt, cP_le, eL_i, eL_l, eL_r, eL_n, Option.toList_none, Option.toList_some, List.nil_append, List.cons_append, kkI, llI, nnI, rrI, jjI, kkJ, llJ, nnJ, rrJ, iiJ, zIIs, zJJs, nEF, nET, and_false, false_and, jmin, jmax, catS_n, catS_i, catS_r, catS_l, Nat.reduceLeDiff, j1eq1, n21, jt0, jt1, Bool.false_eq_true, Classical.not_not, true_or, or_true, false_or, or_false, true_imp_iff, false_imp_iff, not_true_eq_false, not_false_eq_true, jif0, jif1, jifb, ltT, ltF, leT, leF, eqT, eqF, jlt, jle, jeq, jlt0, jle0, jeq0, jge0, jgt0, jinB, jnat, clt, cle, ceq, cgt, cge, lI_add, lI_sub, lI_mul, jadd, jsub, jmul, jneg, jtol, b010, b011, pv_2t, Int.toNat_natCast, Option.some.injEq, exists_eq_left', if_true, if_false, show gRc 151 = 3 from rfl]
        exact z
      · rw [if_neg e1] at z
        refine vs_ok 4 ?_
        rw [show ((gRes 151).drop 10).take 4 = [.ifCond .ne 13, .jsr_w (-1), .lreturn, .iload 4] from rfl]
        simp (disch := omega) only [vs_jsr_w, vs_ifCond, vs_lreturn, vs_iload4, vs_nil, gv_0, gv_1, gv_2, gv_3, pv_0, pv_1, va_rf_s, Nat.reduceDiv, Nat.reduceMod, Nat.reduceAdd, Nat.reduceMul, Int.reduceToNat, true_and, and_true, and_self, cP_eq, cP_ne, cP_lt, cP_ge, cP_gt, cP_le, eL_i, eL_l, eL_r, eL_n, Option.toList_none, Option.toList_some, List.nil_append, List.cons_append, kkI, llI, nnI, rrI, jjI, kkJ, llJ, nnJ, rrJ, iiJ, zIIs, zJJs, nEF, nET, and_false, false_and, jmin, jmax, catS_n, catS_i, catS_r, catS_l, Nat.reduceLeDiff, j1eq1, n21, jt0, jt1, Bool.false_eq_true, Classical.not_not, true_or, or_true, false_or, or_false, true_imp_iff, false_imp_iff, not_true_eq_false, not_false_eq_true, jif0, jif1, jifb, ltT, ltF, leT, leF, eqT, eqF, jlt, jle, jeq, jlt0, jle0, jeq0, jge0, jgt0, jinB, jnat, clt, cle, ceq, cgt, cge, lI_add, lI_sub, lI_mul, jadd, jsub, jmul, jneg, jtol, b010, b011, pv_2t, Int.toNat_natCast, Option.some.injEq, exists_eq_left', if_true, if_false, show gRc 151 = 3 from rfl]
        refine vs_ok 2 ?_
        rw [show ((gRes 151).drop 13).take 2 = [.iload 4, .ifCond .ne 21] from rfl]
        simp (disch := omega) only [vs_ifCond, vs_iload4, vs_nil, gv_0, gv_1, gv_2, gv_3, pv_0, pv_1, va_rf_s, Nat.reduceDiv, Nat.reduceMod, Nat.reduceAdd, Nat.reduceMul, Int.reduceToNat, true_and, and_true, and_self, cP_eq, cP_ne, cP_lt, cP_ge, cP_gt, cP_le, eL_i, eL_l, eL_r, eL_n, Option.toList_none, Option.toList_some, List.nil_append, List.cons_append, kkI, llI, nnI, rrI, jjI, kkJ, llJ, nnJ, rrJ, iiJ, zIIs, zJJs, nEF, nET, and_false, false_and, jmin, jmax, catS_n, catS_i, catS_r, catS_l, Nat.reduceLeDiff, j1eq1, n21, jt0, jt1, Bool.false_eq_true, Classical.not_not, true_or, or_true, false_or, or_false, true_imp_iff, false_imp_iff, not_true_eq_false, not_false_eq_true, jif0, jif1, jifb, ltT, ltF, leT, leF, eqT, eqF, jlt, jle, jeq, jlt0, jle0, jeq0, jge0, jgt0, jinB, jnat, clt, cle, ceq, cgt, cge, lI_add, lI_sub, lI_mul, jadd, jsub, jmul, jneg, jtol, b010, b011, pv_2t, Int.toNat_natCast, Option.some.injEq, exists_eq_left', if_true, if_false]
        refine vs_ok 3 ?_
        rw [show ((gRes 151).drop 21).take 3 = [.iload 4, .iconst 1, .if_icmp .ne 30] from rfl]
        simp (disch := omega) only [vs_iconst, vs_if_icmp, vs_iload4, vs_nil, gv_0, gv_1, gv_2, gv_3, pv_0, pv_1, va_rf_s, Nat.reduceDiv, Nat.reduceMod, Nat.reduceAdd, Nat.reduceMul, Int.reduceToNat, true_and, and_true, and_self, cP_eq, cP_ne, cP_lt, cP_ge, cP_gt, cP_le, eL_i, eL_l, eL_r, eL_n, Option.toList_none, Option.toList_some, List.nil_append, List.cons_append, kkI, llI, nnI, rrI, jjI, kkJ, llJ, nnJ, rrJ, iiJ, zIIs, zJJs, nEF, nET, and_false, false_and, jmin, jmax, catS_n, catS_i, catS_r, catS_l, Nat.reduceLeDiff, j1eq1, n21, jt0, jt1, Bool.false_eq_true, Classical.not_not, true_or, or_true, false_or, or_false, true_imp_iff, false_imp_iff, not_true_eq_false, not_false_eq_true, jif0, jif1, jifb, ltT, ltF, leT, leF, eqT, eqF, jlt, jle, jeq, jlt0, jle0, jeq0, jge0, jgt0, jinB, jnat, clt, cle, ceq, cgt, cge, lI_add, lI_sub, lI_mul, jadd, jsub, jmul, jneg, jtol, b010, b011, pv_2t, Int.toNat_natCast, Option.some.injEq, exists_eq_left', if_true, if_false]
        refine vs_ok 4 ?_
        rw [show ((gRes 151).drop 30).take 4 = [.aload 0, .getfield 11132, .aload 0, .getfield 11142] from rfl]
        simp (disch := omega) only [vs_getfield, vs_aload0, vs_nil, gv_0, gv_1, gv_2, gv_3, pv_0, pv_1, va_rf_s, Nat.reduceDiv, Nat.reduceMod, Nat.reduceAdd, Nat.reduceMul, Int.reduceToNat, true_and, and_true, and_self, cP_eq, cP_ne, cP_lt, cP_ge, cP_gt, cP_le, eL_i, eL_l, eL_r, eL_n, Option.toList_none, Option.toList_some, List.nil_append, List.cons_append, kkI, llI, nnI, rrI, jjI, kkJ, llJ, nnJ, rrJ, iiJ, zIIs, zJJs, nEF, nET, and_false, false_and, jmin, jmax, catS_n, catS_i, catS_r, catS_l, Nat.reduceLeDiff, j1eq1, n21, jt0, jt1, Bool.false_eq_true, Classical.not_not, true_or, or_true, false_or, or_false, true_imp_iff, false_imp_iff, not_true_eq_false, not_false_eq_true, jif0, jif1, jifb, ltT, ltF, leT, leF, eqT, eqF, jlt, jle, jeq, jlt0, jle0, jeq0, jge0, jgt0, jinB, jnat, clt, cle, ceq, cgt, cge, lI_add, lI_sub, lI_mul, jadd, jsub, jmul, jneg, jtol, b010, b011, pv_2t, Int.toNat_natCast, Option.some.injEq, exists_eq_left', if_true, if_false, N', y13, y14]
        refine PW.iv rfl rfl rfl r1.1.1 r1.1.2.1 (le_b rfl) (le_b rfl) ?_
        refine t_even r1 r2 ⟨rfl, ⟨rfl, rfl⟩, ?_⟩
        refine vs_ok 1 ?_
        rw [show ((gRes 151).drop 35).take 1 = [.lreturn] from rfl]
        simp (disch := omega) only [vs_lreturn, vs_nil, gv_0, gv_1, gv_2, gv_3, pv_0, pv_1, va_rf_s, Nat.reduceDiv, Nat.reduceMod, Nat.reduceAdd, Nat.reduceMul, Int.reduceToNat, true_and, and_true, and_self, cP_eq, cP_ne, cP_lt, cP_ge, cP_gt, cP_le, eL_i, eL_l, eL_r, eL_n, Option.toList_none, Option.toList_some, List.nil_append, List.cons_append, kkI, llI, nnI, rrI, jjI, kkJ, llJ, nnJ, rrJ, iiJ, zIIs, zJJs, nEF, nET, and_false, false_and, jmin, jmax, catS_n, catS_i, catS_r, catS_l, Nat.reduceLeDiff, j1eq1, n21, jt0, jt1, Bool.false_eq_true, Classical.not_not, true_or, or_true, false_or, or_false, true_imp_iff, false_imp_iff, not_true_eq_false, not_false_eq_true, jif0, jif1, jifb, ltT, ltF, leT, leF, eqT, eqF, jlt, jle, jeq, jlt0, jle0, jeq0, jge0, jgt0, jinB, jnat, clt, cle, ceq, cgt, cge, lI_add, lI_sub, lI_mul, jadd, jsub, jmul, jneg, jtol, b010, b011, pv_2t, Int.toNat_natCast, Option.some.injEq, exists_eq_left', if_true, if_false, show gRc 151 = 3 from rfl]
        exact z
  · have z := hq h fr.rf ht
    rw [if_neg cc] at z
    by_cases n0 : c < 0
    · refine vs_ok 2 ?_
      rw [show ((gRes 151).drop 0).take 2 = [.iload 4, .ifCond .lt 11] from rfl]
      simp (disch := omega) only [vs_ifCond, vs_iload4, vs_nil, gv_0, gv_1, gv_2, gv_3, pv_0, pv_1, va_rf_s, Nat.reduceDiv, Nat.reduceMod, Nat.reduceAdd, Nat.reduceMul, Int.reduceToNat, true_and, and_true, and_self, cP_eq, cP_ne, cP_lt, cP_ge, cP_gt, cP_le, eL_i, eL_l, eL_r, eL_n, Option.toList_none, Option.toList_some, List.nil_append, List.cons_append, kkI, llI, nnI, rrI, jjI, kkJ, llJ, nnJ, rrJ, iiJ, zIIs, zJJs, nEF, nET, and_false, false_and, jmin, jmax, catS_n, catS_i, catS_r, catS_l, Nat.reduceLeDiff, j1eq1, n21, jt0, jt1, Bool.false_eq_true, Classical.not_not, true_or, or_true, false_or, or_false, true_imp_iff, false_imp_iff, not_true_eq_false, not_false_eq_true, jif0, jif1, jifb, ltT, ltF, leT, leF, eqT, eqF, jlt, jle, jeq, jlt0, jle0, jeq0, jge0, jgt0, jinB, jnat, clt, cle, ceq, cgt, cge, lI_add, lI_sub, lI_mul, jadd, jsub, jmul, jneg, jtol, b010, b011, pv_2t, Int.toNat_natCast, Option.some.injEq, exists_eq_left', if_true, if_false]
      refine vs_ok 2 ?_
      rw [show ((gRes 151).drop 11).take 2 = [.jsr_w (-1), .lreturn] from rfl]
      simp (disch := omega) only [vs_jsr_w, vs_lreturn, vs_nil, gv_0, gv_1, gv_2, gv_3, pv_0, pv_1, va_rf_s, Nat.reduceDiv, Nat.reduceMod, Nat.reduceAdd, Nat.reduceMul, Int.reduceToNat, true_and, and_true, and_self, cP_eq, cP_ne, cP_lt, cP_ge, cP_gt, cP_le, eL_i, eL_l, eL_r, eL_n, Option.toList_none, Option.toList_some, List.nil_append, List.cons_append, kkI, llI, nnI, rrI, jjI, kkJ, llJ, nnJ, rrJ, iiJ, zIIs, zJJs, nEF, nET, and_false, false_and, jmin, jmax, catS_n, catS_i, catS_r, catS_l, Nat.reduceLeDiff, j1eq1, n21, jt0, jt1, Bool.false_eq_true, Classical.not_not, true_or, or_true, false_or, or_false, true_imp_iff, false_imp_iff, not_true_eq_false, not_false_eq_true, jif0, jif1, jifb, ltT, ltF, leT, leF, eqT, eqF, jlt, jle, jeq, jlt0, jle0, jeq0, jge0, jgt0, jinB, jnat, clt, cle, ceq, cgt, cge, lI_add, lI_sub, lI_mul, jadd, jsub, jmul, jneg, jtol, b010, b011, pv_2t, Int.toNat_natCast, Option.some.injEq, exists_eq_left', if_true, if_false, show gRc 151 = 3 from rfl]
      exact z
    · refine vs_ok 5 ?_
      rw [show ((gRes 151).drop 0).take 5 = [.iload 4, .ifCond .lt 11, .iload 4, .iconst 2, .if_icmp .gt 11] from rfl]
      simp (disch := omega) only [vs_iconst, vs_if_icmp, vs_ifCond, vs_iload4, vs_nil, gv_0, gv_1, gv_2, gv_3, pv_0, pv_1, va_rf_s, Nat.reduceDiv, Nat.reduceMod, Nat.reduceAdd, Nat.reduceMul, Int.reduceToNat, true_and, and_true, and_self, cP_eq, cP_ne, cP_lt, cP_ge, cP_gt, cP_le, eL_i, eL_l, eL_r, eL_n, Option.toList_none, Option.toList_some, List.nil_append, List.cons_append, kkI, llI, nnI, rrI, jjI, kkJ, llJ, nnJ, rrJ, iiJ, zIIs, zJJs, nEF, nET, and_false, false_and, jmin, jmax, catS_n, catS_i, catS_r, catS_l, Nat.reduceLeDiff, j1eq1, n21, jt0, jt1, Bool.false_eq_true, Classical.not_not, true_or, or_true, false_or, or_false, true_imp_iff, false_imp_iff, not_true_eq_false, not_false_eq_true, jif0, jif1, jifb, ltT, ltF, leT, leF, eqT, eqF, jlt, jle, jeq, jlt0, jle0, jeq0, jge0, jgt0, jinB, jnat, clt, cle, ceq, cgt, cge, lI_add, lI_sub, lI_mul, jadd, jsub, jmul, jneg, jtol, b010, b011, pv_2t, Int.toNat_natCast, Option.some.injEq, exists_eq_left', if_true, if_false]
      refine vs_ok 2 ?_
      rw [show ((gRes 151).drop 11).take 2 = [.jsr_w (-1), .lreturn] from rfl]
      simp (disch := omega) only [vs_jsr_w, vs_lreturn, vs_nil, gv_0, gv_1, gv_2, gv_3, pv_0, pv_1, va_rf_s, Nat.reduceDiv, Nat.reduceMod, Nat.reduceAdd, Nat.reduceMul, Int.reduceToNat, true_and, and_true, and_self, cP_eq, cP_ne, cP_lt, cP_ge, cP_gt, cP_le, eL_i, eL_l, eL_r, eL_n, Option.toList_none, Option.toList_some, List.nil_append, List.cons_append, kkI, llI, nnI, rrI, jjI, kkJ, llJ, nnJ, rrJ, iiJ, zIIs, zJJs, nEF, nET, and_false, false_and, jmin, jmax, catS_n, catS_i, catS_r, catS_l, Nat.reduceLeDiff, j1eq1, n21, jt0, jt1, Bool.false_eq_true, Classical.not_not, true_or, or_true, false_or, or_false, true_imp_iff, false_imp_iff, not_true_eq_false, not_false_eq_true, jif0, jif1, jifb, ltT, ltF, leT, leF, eqT, eqF, jlt, jle, jeq, jlt0, jle0, jeq0, jge0, jgt0, jinB, jnat, clt, cle, ceq, cgt, cge, lI_add, lI_sub, lI_mul, jadd, jsub, jmul, jneg, jtol, b010, b011, pv_2t, Int.toNat_natCast, Option.some.injEq, exists_eq_left', if_true, if_false, show gRc 151 = 3 from rfl]
      exact z
theorem gW.top {c : Int} {v : RowVal} (hc : c ≤ 800) (h : gW c v) {n : Int} (hn : v.2.1 < n) : pS v.2.2.2 n = v.2.2.1 := by
  have h1 := h.1
  have z : ∀ m, v.2.1 < m → v.2.2.2 m = 0 := fun m hm => h.2.2.1 m (by omega)
  rw [h.2.2.2.1, pS_hi z (by omega) hn]
  exact (pS_hi z (by omega) (show v.2.1 < 1000 by omega)).symm
theorem gW.ple {c : Int} {v : RowVal} (hc : c ≤ 800) (h : gW c v) (n : Int) : 0 ≤ pS v.2.2.2 n ∧ pS v.2.2.2 n ≤ v.2.2.1 := by
  refine ⟨pS_nn h.2.1 n, ?_⟩
  by_cases c2 : v.2.1 < n
  · rw [h.top hc c2]
    exact Int.le_refl _
  · have h1 := h.1
    have e : pS v.2.2.2 (v.2.1 + 1) = v.2.2.1 := h.top hc (by omega)
    by_cases c2 : n < -1000
    · rw [(pS_lt c2).1]
      have := h.2.2.2.2.1
      omega
    · rw [← e]
      unfold pS
      rw [show (v.2.1 + 1 + 1000).toNat = (n + 1000).toNat + (v.2.1 + 1 - n).toNat by omega, sm_split]
      have := sm_nn h.2.1 (lo := -1000 + ((n + 1000).toNat : Nat)) (v.2.1 + 1 - n).toNat
      omega
theorem ld_b {w u : RowVal} (hw : gW 800 w) (hu : gW 800 u) : i64 (ldV w.2.2.2 u.2.2.2) := by
  have w6 := hw.2.2.2.2
  have u6 := hu.2.2.2.2
  have a := pS_mono (f := fun n => w.2.2.2 n * pS u.2.2.2 n - u.2.2.2 n * pS w.2.2.2 n) (g := fun n => u.2.2.1 * w.2.2.2 n) (n := 1000) fun m => by
    have p1 := Int.mul_le_mul_of_nonneg_left (hu.ple (by omega) m).2 (hw.2.1 m)
    have p2 := Int.mul_nonneg (hu.2.1 m) (hw.ple (by omega) m).1
    show w.2.2.2 m * pS u.2.2.2 m - u.2.2.2 m * pS w.2.2.2 m ≤ u.2.2.1 * w.2.2.2 m
    rw [Int.mul_comm u.2.2.1]
    omega
  have b := pS_mono (f := fun n => (-w.2.2.1) * u.2.2.2 n) (g := fun n => w.2.2.2 n * pS u.2.2.2 n - u.2.2.2 n * pS w.2.2.2 n) (n := 1000) fun m => by
    have p1 := Int.mul_le_mul_of_nonneg_left (hw.ple (by omega) m).2 (hu.2.1 m)
    have p2 := Int.mul_nonneg (hw.2.1 m) (hu.ple (by omega) m).1
    show (-w.2.2.1) * u.2.2.2 m ≤ w.2.2.2 m * pS u.2.2.2 m - u.2.2.2 m * pS w.2.2.2 m
    rw [Int.neg_mul, Int.mul_comm w.2.2.1]
    omega
  rw [pS_cm, hw.top (by omega) (by have := hw.1; omega)] at a
  rw [pS_cm, hu.top (by omega) (by have := hu.1; omega), Int.neg_mul] at b
  have m1 : u.2.2.1 * w.2.2.1 ≤ 1000000000 * 1000000000 := Int.mul_le_mul u6.2 w6.2 (by omega) (by omega)
  have m2 : w.2.2.1 * u.2.2.1 ≤ 1000000000 * 1000000000 := Int.mul_le_mul w6.2 u6.2 (by omega) (by omega)
  unfold ldV
  constructor <;> omega
/-- what `beats` answers -/
def btV (o : Option (RowVal × RowVal)) : Int := match o with
  | none => -2
  | some (w, u) => if ldV w.2.2.2 u.2.2.2 < 0 then -1 else if ldV w.2.2.2 u.2.2.2 = 0 then 0 else 1
theorem t_beats {d : Nat} {h : Hp} {x t : Nat} {nm a b k : Int} {F Wd : Nat → Int} {V : Nat → RowVal} {Q : Nat → Option Value → Hp → Prop} (N : zK h x = 11 ∧ x < zN h) (h2 : zR h x 2 = some t) (hb : isTb h t nm F Wd) (hv : ∀ k, k < 12 → rowP h (t + 4 + 2 * k) 200 (V k)) (hg : ∀ k : Nat, (k : Int) < nm → gV (V k)) (ht : thS h x) (hd : x < t ∧ t + 28 ≤ x + 155) (ha : i32 a) (hbb : i32 b) (hk : i32 k)
    (hq : ∀ g, fr (thC x) h g → thS g x → Q 0 (some (.int (iI (btV (th2V V nm a b k))))) g) : PR (d + 5) m_D_beats [.ref x, .int (iI a), .int (iI b), .int (iI k)] h Q := by
  show PW (d + 5) 152 0 [some (.ref x), some (.int (iI a)), some (.int (iI b)), some (.int (iI k))] [] h Q
  refine vs_ok 4 ?_
  rw [show ((gRes 152).drop 0).take 4 = [.aload 0, .iload 1, .iload 2, .iload 3] from rfl]
  simp (disch := omega) only [vs_aload0, vs_iload1, vs_iload2, vs_iload3, vs_nil, gv_0, gv_1, gv_2, gv_3, pv_0, pv_1, va_rf_s, Nat.reduceDiv, Nat.reduceMod, Nat.reduceAdd, Nat.reduceMul, Int.reduceToNat, true_and, and_true, and_self, cP_eq, cP_ne, cP_lt, cP_ge, cP_gt, cP_le, eL_i, eL_l, eL_r, eL_n, Option.toList_none, Option.toList_some, List.nil_append, List.cons_append, kkI, llI, nnI, rrI, jjI, kkJ, llJ, nnJ, rrJ, iiJ, zIIs, zJJs, nEF, nET, and_false, false_and, jmin, jmax, catS_n, catS_i, catS_r, catS_l, Nat.reduceLeDiff, j1eq1, n21, jt0, jt1, Bool.false_eq_true, Classical.not_not, true_or, or_true, false_or, or_false, true_imp_iff, false_imp_iff, not_true_eq_false, not_false_eq_true, jif0, jif1, jifb, ltT, ltF, leT, leF, eqT, eqF, jlt, jle, jeq, jlt0, jle0, jeq0, jge0, jgt0, jinB, jnat, clt, cle, ceq, cgt, cge, lI_add, lI_sub, lI_mul, jadd, jsub, jmul, jneg, jtol, b010, b011, pv_2t, Int.toNat_natCast, Option.some.injEq, exists_eq_left', if_true, if_false]
  refine PW.iv rfl rfl rfl N.1 N.2 (le_b rfl) (le_b rfl) ?_
  refine t_throwBoth (d := d) N h2 hb hv hg ht hd ha hbb hk (fun bad g f t' => ⟨rfl, ⟨f.2.2.1, rfl⟩, ?_⟩) fun w u ok hw hu gw gu g f r1 r2 t' => ⟨rfl, ⟨f.2.2.1, rfl⟩, ?_⟩
  · have z := hq g f t'
    rw [th2_none bad] at z
    refine vs_ok 1 ?_
    rw [show ((gRes 152).drop 5).take 1 = [.ifCond .ne 8] from rfl]
    simp (disch := omega) only [vs_ifCond, vs_nil, gv_0, gv_1, gv_2, gv_3, pv_0, pv_1, va_rf_s, Nat.reduceDiv, Nat.reduceMod, Nat.reduceAdd, Nat.reduceMul, Int.reduceToNat, true_and, and_true, and_self, cP_eq, cP_ne, cP_lt, cP_ge, cP_gt, cP_le, eL_i, eL_l, eL_r, eL_n, Option.toList_none, Option.toList_some, List.nil_append, List.cons_append, kkI, llI, nnI, rrI, jjI, kkJ, llJ, nnJ, rrJ, iiJ, zIIs, zJJs, nEF, nET, and_false, false_and, jmin, jmax, catS_n, catS_i, catS_r, catS_l, Nat.reduceLeDiff, j1eq1, n21, jt0, jt1, Bool.false_eq_true, Classical.not_not, true_or, or_true, false_or, or_false, true_imp_iff, false_imp_iff, not_true_eq_false, not_false_eq_true, jif0, jif1, jifb, ltT, ltF, leT, leF, eqT, eqF, jlt, jle, jeq, jlt0, jle0, jeq0, jge0, jgt0, jinB, jnat, clt, cle, ceq, cgt, cge, lI_add, lI_sub, lI_mul, jadd, jsub, jmul, jneg, jtol, b010, b011, pv_2t, Int.toNat_natCast, Option.some.injEq, exists_eq_left', if_true, if_false]
    refine vs_ok 2 ?_
    rw [show ((gRes 152).drop 6).take 2 = [.iconst (-2), .ireturn] from rfl]
    simp (disch := omega) only [vs_iconst, vs_ireturn, vs_nil, gv_0, gv_1, gv_2, gv_3, pv_0, pv_1, va_rf_s, Nat.reduceDiv, Nat.reduceMod, Nat.reduceAdd, Nat.reduceMul, Int.reduceToNat, true_and, and_true, and_self, cP_eq, cP_ne, cP_lt, cP_ge, cP_gt, cP_le, eL_i, eL_l, eL_r, eL_n, Option.toList_none, Option.toList_some, List.nil_append, List.cons_append, kkI, llI, nnI, rrI, jjI, kkJ, llJ, nnJ, rrJ, iiJ, zIIs, zJJs, nEF, nET, and_false, false_and, jmin, jmax, catS_n, catS_i, catS_r, catS_l, Nat.reduceLeDiff, j1eq1, n21, jt0, jt1, Bool.false_eq_true, Classical.not_not, true_or, or_true, false_or, or_false, true_imp_iff, false_imp_iff, not_true_eq_false, not_false_eq_true, jif0, jif1, jifb, ltT, ltF, leT, leF, eqT, eqF, jlt, jle, jeq, jlt0, jle0, jeq0, jge0, jgt0, jinB, jnat, clt, cle, ceq, cgt, cge, lI_add, lI_sub, lI_mul, jadd, jsub, jmul, jneg, jtol, b010, b011, pv_2t, Int.toNat_natCast, Option.some.injEq, exists_eq_left', if_true, if_false, show gRc 152 = 1 from rfl]
    exact z
  · have z := hq g f t'
    rw [th2_some ok hw hu] at z
    have N' : zK g x = 11 ∧ x < zN g := ⟨by rw [f.1]; exact N.1, by rw [f.2.2.1]; exact N.2⟩
    have y13 := t'.1.1
    have y14 := t'.1.2.1
    refine vs_ok 1 ?_
    rw [show ((gRes 152).drop 5).take 1 = [.ifCond .ne 8] from rfl]
    simp (disch := omega) only [vs_ifCond, vs_nil, gv_0, gv_1, gv_2, gv_3, pv_0, pv_1, va_rf_s, Nat.reduceDiv, Nat.reduceMod, Nat.reduceAdd, Nat.reduceMul, Int.reduceToNat, true_and, and_true, and_self, cP_eq, cP_ne, cP_lt, cP_ge, cP_gt, cP_le, eL_i, eL_l, eL_r, eL_n, Option.toList_none, Option.toList_some, List.nil_append, List.cons_append, kkI, llI, nnI, rrI, jjI, kkJ, llJ, nnJ, rrJ, iiJ, zIIs, zJJs, nEF, nET, and_false, false_and, jmin, jmax, catS_n, catS_i, catS_r, catS_l, Nat.reduceLeDiff, j1eq1, n21, jt0, jt1, Bool.false_eq_true, Classical.not_not, true_or, or_true, false_or, or_false, true_imp_iff, false_imp_iff, not_true_eq_false, not_false_eq_true, jif0, jif1, jifb, ltT, ltF, leT, leF, eqT, eqF, jlt, jle, jeq, jlt0, jle0, jeq0, jge0, jgt0, jinB, jnat, clt, cle, ceq, cgt, cge, lI_add, lI_sub, lI_mul, jadd, jsub, jmul, jneg, jtol, b010, b011, pv_2t, Int.toNat_natCast, Option.some.injEq, exists_eq_left', if_true, if_false]
    refine vs_ok 4 ?_
    rw [show ((gRes 152).drop 8).take 4 = [.aload 0, .getfield 11132, .aload 0, .getfield 11142] from rfl]
    simp (disch := omega) only [vs_getfield, vs_aload0, vs_nil, gv_0, gv_1, gv_2, gv_3, pv_0, pv_1, va_rf_s, Nat.reduceDiv, Nat.reduceMod, Nat.reduceAdd, Nat.reduceMul, Int.reduceToNat, true_and, and_true, and_self, cP_eq, cP_ne, cP_lt, cP_ge, cP_gt, cP_le, eL_i, eL_l, eL_r, eL_n, Option.toList_none, Option.toList_some, List.nil_append, List.cons_append, kkI, llI, nnI, rrI, jjI, kkJ, llJ, nnJ, rrJ, iiJ, zIIs, zJJs, nEF, nET, and_false, false_and, jmin, jmax, catS_n, catS_i, catS_r, catS_l, Nat.reduceLeDiff, j1eq1, n21, jt0, jt1, Bool.false_eq_true, Classical.not_not, true_or, or_true, false_or, or_false, true_imp_iff, false_imp_iff, not_true_eq_false, not_false_eq_true, jif0, jif1, jifb, ltT, ltF, leT, leF, eqT, eqF, jlt, jle, jeq, jlt0, jle0, jeq0, jge0, jgt0, jinB, jnat, clt, cle, ceq, cgt, cge, lI_add, lI_sub, lI_mul, jadd, jsub, jmul, jneg, jtol, b010, b011, pv_2t, Int.toNat_natCast, Option.some.injEq, exists_eq_left', if_true, if_false, N', y13, y14]
    refine PW.iv rfl rfl rfl r1.1.1 r1.1.2.1 (le_b rfl) (le_b rfl) ?_
    refine t_lead r1 r2 ⟨rfl, ⟨rfl, rfl⟩, ?_⟩
    refine vs_ok 1 ?_
    rw [show ((gRes 152).drop 13).take 1 = [.jsr_w 0] from rfl]
    simp (disch := omega) only [vs_jsr_w, vs_nil, gv_0, gv_1, gv_2, gv_3, pv_0, pv_1, va_rf_s, Nat.reduceDiv, Nat.reduceMod, Nat.reduceAdd, Nat.reduceMul, Int.reduceToNat, true_and, and_true, and_self, cP_eq, cP_ne, cP_lt, cP_ge, cP_gt, cP_le, eL_i, eL_l, eL_r, eL_n, Option.toList_none, Option.toList_some, List.nil_append, List.cons_append, kkI, llI, nnI, rrI, jjI, kkJ, llJ, nnJ, rrJ, iiJ, zIIs, zJJs, nEF, nET, and_false, false_and, jmin, jmax, catS_n, catS_i, catS_r, catS_l, Nat.reduceLeDiff, j1eq1, n21, jt0, jt1, Bool.false_eq_true, Classical.not_not, true_or, or_true, false_or, or_false, true_imp_iff, false_imp_iff, not_true_eq_false, not_false_eq_true, jif0, jif1, jifb, ltT, ltF, leT, leF, eqT, eqF, jlt, jle, jeq, jlt0, jle0, jeq0, jge0, jgt0, jinB, jnat, clt, cle, ceq, cgt, cge, lI_add, lI_sub, lI_mul, jadd, jsub, jmul, jneg, jtol, b010, b011, pv_2t, Int.toNat_natCast, Option.some.injEq, exists_eq_left', if_true, if_false]
    refine PW.ss (r := []) rfl (le_b rfl) rfl rfl (le_b rfl) (le_b rfl) ?_
    refine t_compare (y := 0) (ld_b gw gu) (by constructor <;> omega) ⟨rfl, ⟨rfl, rfl⟩, ?_⟩
    refine vs_ok 1 ?_
    rw [show ((gRes 152).drop 15).take 1 = [.ireturn] from rfl]
    simp (disch := omega) only [vs_ireturn, vs_nil, gv_0, gv_1, gv_2, gv_3, pv_0, pv_1, va_rf_s, Nat.reduceDiv, Nat.reduceMod, Nat.reduceAdd, Nat.reduceMul, Int.reduceToNat, true_and, and_true, and_self, cP_eq, cP_ne, cP_lt, cP_ge, cP_gt, cP_le, eL_i, eL_l, eL_r, eL_n, Option.toList_none, Option.toList_some, List.nil_append, List.cons_append, kkI, llI, nnI, rrI, jjI, kkJ, llJ, nnJ, rrJ, iiJ, zIIs, zJJs, nEF, nET, and_false, false_and, jmin, jmax, catS_n, catS_i, catS_r, catS_l, Nat.reduceLeDiff, j1eq1, n21, jt0, jt1, Bool.false_eq_true, Classical.not_not, true_or, or_true, false_or, or_false, true_imp_iff, false_imp_iff, not_true_eq_false, not_false_eq_true, jif0, jif1, jifb, ltT, ltF, leT, leF, eqT, eqF, jlt, jle, jeq, jlt0, jle0, jeq0, jge0, jgt0, jinB, jnat, clt, cle, ceq, cgt, cge, lI_add, lI_sub, lI_mul, jadd, jsub, jmul, jneg, jtol, b010, b011, pv_2t, Int.toNat_natCast, Option.some.injEq, exists_eq_left', if_true, if_false, show gRc 152 = 1 from rfl]
    exact z
