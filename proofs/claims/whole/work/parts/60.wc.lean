/-! WordCount: isOfUnlike, start, take -/
abbrev wcL : List (Nat × Nat) := [(14, 4), (14, 16), (14, 64), (14, 256), (14, 16)]
theorem wcF {h : Hp} {w : Nat} (ho : objA h w 9 wcL) : (zK h w = 9 ∧ w < zN h) ∧ (zR h w 0 = some (w + 1) ∧ zK h (w + 1) = 14 ∧ w + 1 < zN h ∧ zL h (w + 1) = 4) ∧ (zR h w 1 = some (w + 2) ∧ zK h (w + 2) = 14 ∧ w + 2 < zN h ∧ zL h (w + 2) = 16) ∧ (zR h w 2 = some (w + 3) ∧ zK h (w + 3) = 14 ∧ w + 3 < zN h ∧ zL h (w + 3) = 64) ∧ (zR h w 3 = some (w + 4) ∧ zK h (w + 4) = 14 ∧ w + 4 < zN h ∧ zL h (w + 4) = 256) ∧ (zR h w 4 = some (w + 5) ∧ zK h (w + 5) = 14 ∧ w + 5 < zN h ∧ zL h (w + 5) = 16) :=
  ⟨⟨ho.1, by have := ho.2.1; omega⟩, ho.e 0 (14, 4) rfl, ho.e 1 (14, 16) rfl, ho.e 2 (14, 64) rfl, ho.e 3 (14, 256) rfl, ho.e 4 (14, 16) rfl⟩
theorem jand3 (a : Nat) : Int32.ofInt (a : Int) &&& Int32.ofInt 3 = Int32.ofInt ((a % 4 : Nat) : Int) := by
  have := jand a 3
  rw [show a &&& 3 = a % 4 from Nat.and_two_pow_sub_one_eq_mod a 2] at this
  exact this
theorem tw2 (i : Nat) : (2 : Int) * (i : Int) = ((2 * i : Nat) : Int) := by omega
/-- the dice that stand in the first i places of an ORDER, as bits -/
def snF (q : Nat) : Nat → Nat
  | 0 => 0
  | i + 1 => snF q i ||| 2 ^ (q / 2 ^ (2 * i) % 4)
theorem snF_lt (q : Nat) : ∀ i, snF q i < 16
  | 0 => by show 0 < 16; omega
  | i + 1 => by
    have h2 : 2 ^ (q / 2 ^ (2 * i) % 4) < 2 ^ 4 := p2_lt (by omega)
    exact Nat.or_lt_two_pow (n := 4) (snF_lt q i) h2
abbrev ofU (q n : Nat) : Bool := pcN (snF q n) 12 == n
theorem t_isOfUnlike {d : Nat} {h : Hp} {q n : Nat} {Q : Nat → Option Value → Hp → Prop} (hqq : q < 256) (hn : n ≤ 4) (hq : Q 0 (some (.int (iI (if ofU q n = true then 1 else 0)))) h) : PR (d + 1) m_WordCount_isOfUnlike [.int (iI q), .int (iI n)] h Q := by
  show PW (d + 1) 115 0 [some (.int (iI q)), some (.int (iI n)), none, none] [] h Q
  have lp : ∀ (k i : Nat), k + i = n → PW (d + 1) 115 4 [some (.int (iI q)), some (.int (iI n)), some (.int (iI (snF q i))), some (.int (iI i))] [] h Q := by
    intro k
    induction k with
    | zero =>
      intro i hi
      have e : i = n := by omega
      subst e
      have sb := snF_lt q i
      have pb := pcN_le (snF q i) 12
      refine vs_ok 3 ?_
      rw [show ((gRes 115).drop 4).take 3 = [.iload 3, .iload 1, .if_icmp .ge 21] from rfl]
      simp (disch := omega) only [vs_if_icmp, vs_iload1, vs_iload3, vs_nil, gv_0, gv_1, gv_2, gv_3, pv_0, pv_1, va_rf_s, Nat.reduceDiv, Nat.reduceMod, Nat.reduceAdd, Nat.reduceMul, Int.reduceToNat, true_and, and_true, and_self, cP_eq, cP_ne, cP_lt, cP_ge, cP_gt, cP_le, eL_i, eL_l, eL_r, eL_n, Option.toList_none, Option.toList_some, List.nil_append, List.cons_append, kkI, llI, nnI, rrI, jjI, kkJ, llJ, nnJ, rrJ, iiJ, zIIs, zJJs, nEF, nET, and_false, false_and, jmin, jmax, catS_n, catS_i, catS_r, catS_l, Nat.reduceLeDiff, j1eq1, n21, jt0, jt1, Bool.false_eq_true, Classical.not_not, true_or, or_true, false_or, or_false, true_imp_iff, false_imp_iff, not_true_eq_false, not_false_eq_true, jif0, jif1, jifb, ltT, ltF, leT, leF, eqT, eqF, jlt, jle, jeq, jlt0, jle0, jeq0, jge0, jgt0, jinB, jnat, clt, cle, ceq, cgt, cge, lI_add, lI_sub, lI_mul, jadd, jsub, jmul, jneg, jtol, b010, b011, pv_2t, Int.toNat_natCast, Option.some.injEq, exists_eq_left', if_true, if_false]
      refine vs_ok 1 ?_
      rw [show ((gRes 115).drop 21).take 1 = [.iload 2] from rfl]
      simp (disch := omega) only [vs_iload2, vs_nil, gv_0, gv_1, gv_2, gv_3, pv_0, pv_1, va_rf_s, Nat.reduceDiv, Nat.reduceMod, Nat.reduceAdd, Nat.reduceMul, Int.reduceToNat, true_and, and_true, and_self, cP_eq, cP_ne, cP_lt, cP_ge, cP_gt, cP_le, eL_i, eL_l, eL_r, eL_n, Option.toList_none, Option.toList_some, List.nil_append, List.cons_append, kkI, llI, nnI, rrI, jjI, kkJ, llJ, nnJ, rrJ, iiJ, zIIs, zJJs, nEF, nET, and_false, false_and, jmin, jmax, catS_n, catS_i, catS_r, catS_l, Nat.reduceLeDiff, j1eq1, n21, jt0, jt1, Bool.false_eq_true, Classical.not_not, true_or, or_true, false_or, or_false, true_imp_iff, false_imp_iff, not_true_eq_false, not_false_eq_true, jif0, jif1, jifb, ltT, ltF, leT, leF, eqT, eqF, jlt, jle, jeq, jlt0, jle0, jeq0, jge0, jgt0, jinB, jnat, clt, cle, ceq, cgt, cge, lI_add, lI_sub, lI_mul, jadd, jsub, jmul, jneg, jtol, b010, b011, pv_2t, Int.toNat_natCast, Option.some.injEq, exists_eq_left', if_true, if_false]
      refine PW.ss (r := []) rfl (le_b rfl) rfl rfl (le_b rfl) (le_b rfl) ?_
      refine t_bitCount (by omega) ⟨rfl, ⟨rfl, rfl⟩, ?_⟩
      by_cases c : pcN (snF q i) 12 = i
      · rw [if_pos (beq_iff_eq.mpr c)] at hq
        refine vs_ok 2 ?_
        rw [show ((gRes 115).drop 23).take 2 = [.iload 1, .if_icmp .ne 27] from rfl]
        simp (disch := omega) only [vs_if_icmp, vs_iload1, vs_nil, gv_0, gv_1, gv_2, gv_3, pv_0, pv_1, va_rf_s, Nat.reduceDiv, Nat.reduceMod, Nat.reduceAdd, Nat.reduceMul, Int.reduceToNat, true_and, and_true, and_self, cP_eq, cP_ne, cP_lt, cP_ge, cP_gt, cP_le, eL_i, eL_l, eL_r, eL_n, Option.toList_none, Option.toList_some, List.nil_append, List.cons_append, kkI, llI, nnI, rrI, jjI, kkJ, llJ, nnJ, rrJ, iiJ, zIIs, zJJs, nEF, nET, and_false, false_and, jmin, jmax, catS_n, catS_i, catS_r, catS_l, Nat.reduceLeDiff, j1eq1, n21, jt0, jt1, Bool.false_eq_true, Classical.not_not, true_or, or_true, false_or, or_false, true_imp_iff, false_imp_iff, not_true_eq_false, not_false_eq_true, jif0, jif1, jifb, ltT, ltF, leT, leF, eqT, eqF, jlt, jle, jeq, jlt0, jle0, jeq0, jge0, jgt0, jinB, jnat, clt, cle, ceq, cgt, cge, lI_add, lI_sub, lI_mul, jadd, jsub, jmul, jneg, jtol, b010, b011, pv_2t, Int.toNat_natCast, Option.some.injEq, exists_eq_left', if_true, if_false, c]
        refine vs_ok 2 ?_
        rw [show ((gRes 115).drop 25).take 2 = [.iconst 1, .goto 28] from rfl]
        simp (disch := omega) only [vs_iconst, vs_goto, vs_nil, gv_0, gv_1, gv_2, gv_3, pv_0, pv_1, va_rf_s, Nat.reduceDiv, Nat.reduceMod, Nat.reduceAdd, Nat.reduceMul, Int.reduceToNat, true_and, and_true, and_self, cP_eq, cP_ne, cP_lt, cP_ge, cP_gt, cP_le, eL_i, eL_l, eL_r, eL_n, Option.toList_none, Option.toList_some, List.nil_append, List.cons_append, kkI, llI, nnI, rrI, jjI, kkJ, llJ, nnJ, rrJ, iiJ, zIIs, zJJs, nEF, nET, and_false, false_and, jmin, jmax, catS_n, catS_i, catS_r, catS_l, Nat.reduceLeDiff, j1eq1, n21, jt0, jt1, Bool.false_eq_true, Classical.not_not, true_or, or_true, false_or, or_false, true_imp_iff, false_imp_iff, not_true_eq_false, not_false_eq_true, jif0, jif1, jifb, ltT, ltF, leT, leF, eqT, eqF, jlt, jle, jeq, jlt0, jle0, jeq0, jge0, jgt0, jinB, jnat, clt, cle, ceq, cgt, cge, lI_add, lI_sub, lI_mul, jadd, jsub, jmul, jneg, jtol, b010, b011, pv_2t, Int.toNat_natCast, Option.some.injEq, exists_eq_left', if_true, if_false]
        refine vs_ok 1 ?_
        rw [show ((gRes 115).drop 28).take 1 = [.ireturn] from rfl]
        simp (disch := omega) only [vs_ireturn, vs_nil, gv_0, gv_1, gv_2, gv_3, pv_0, pv_1, va_rf_s, Nat.reduceDiv, Nat.reduceMod, Nat.reduceAdd, Nat.reduceMul, Int.reduceToNat, true_and, and_true, and_self, cP_eq, cP_ne, cP_lt, cP_ge, cP_gt, cP_le, eL_i, eL_l, eL_r, eL_n, Option.toList_none, Option.toList_some, List.nil_append, List.cons_append, kkI, llI, nnI, rrI, jjI, kkJ, llJ, nnJ, rrJ, iiJ, zIIs, zJJs, nEF, nET, and_false, false_and, jmin, jmax, catS_n, catS_i, catS_r, catS_l, Nat.reduceLeDiff, j1eq1, n21, jt0, jt1, Bool.false_eq_true, Classical.not_not, true_or, or_true, false_or, or_false, true_imp_iff, false_imp_iff, not_true_eq_false, not_false_eq_true, jif0, jif1, jifb, ltT, ltF, leT, leF, eqT, eqF, jlt, jle, jeq, jlt0, jle0, jeq0, jge0, jgt0, jinB, jnat, clt, cle, ceq, cgt, cge, lI_add, lI_sub, lI_mul, jadd, jsub, jmul, jneg, jtol, b010, b011, pv_2t, Int.toNat_natCast, Option.some.injEq, exists_eq_left', if_true, if_false, show gRc 115 = 2 from rfl]
        exact hq
      · rw [if_neg (fun z => c (beq_iff_eq.mp z))] at hq
        refine vs_ok 2 ?_
        rw [show ((gRes 115).drop 23).take 2 = [.iload 1, .if_icmp .ne 27] from rfl]
        simp (disch := omega) only [vs_if_icmp, vs_iload1, vs_nil, gv_0, gv_1, gv_2, gv_3, pv_0, pv_1, va_rf_s, Nat.reduceDiv, Nat.reduceMod, Nat.reduceAdd, Nat.reduceMul, Int.reduceToNat, true_and, and_true, and_self, cP_eq, cP_ne, cP_lt, cP_ge, cP_gt, cP_le, eL_i, eL_l, eL_r, eL_n, Option.toList_none, Option.toList_some, List.nil_append, List.cons_append, kkI, llI, nnI, rrI, jjI, kkJ, llJ, nnJ, rrJ, iiJ, zIIs, zJJs, nEF, nET, and_false, false_and, jmin, jmax, catS_n, catS_i, catS_r, catS_l, Nat.reduceLeDiff, j1eq1, n21, jt0, jt1, Bool.false_eq_true, Classical.not_not, true_or, or_true, false_or, or_false, true_imp_iff, false_imp_iff, not_true_eq_false, not_false_eq_true, jif0, jif1, jifb, ltT, ltF, leT, leF, eqT, eqF, jlt, jle, jeq, jlt0, jle0, jeq0, jge0, jgt0, jinB, jnat, clt, cle, ceq, cgt, cge, lI_add, lI_sub, lI_mul, jadd, jsub, jmul, jneg, jtol, b010, b011, pv_2t, Int.toNat_natCast, Option.some.injEq, exists_eq_left', if_true, if_false]
        refine vs_ok 2 ?_
        rw [show ((gRes 115).drop 27).take 2 = [.iconst 0, .ireturn] from rfl]
        simp (disch := omega) only [vs_iconst, vs_ireturn, vs_nil, gv_0, gv_1, gv_2, gv_3, pv_0, pv_1, va_rf_s, Nat.reduceDiv, Nat.reduceMod, Nat.reduceAdd, Nat.reduceMul, Int.reduceToNat, true_and, and_true, and_self, cP_eq, cP_ne, cP_lt, cP_ge, cP_gt, cP_le, eL_i, eL_l, eL_r, eL_n, Option.toList_none, Option.toList_some, List.nil_append, List.cons_append, kkI, llI, nnI, rrI, jjI, kkJ, llJ, nnJ, rrJ, iiJ, zIIs, zJJs, nEF, nET, and_false, false_and, jmin, jmax, catS_n, catS_i, catS_r, catS_l, Nat.reduceLeDiff, j1eq1, n21, jt0, jt1, Bool.false_eq_true, Classical.not_not, true_or, or_true, false_or, or_false, true_imp_iff, false_imp_iff, not_true_eq_false, not_false_eq_true, jif0, jif1, jifb, ltT, ltF, leT, leF, eqT, eqF, jlt, jle, jeq, jlt0, jle0, jeq0, jge0, jgt0, jinB, jnat, clt, cle, ceq, cgt, cge, lI_add, lI_sub, lI_mul, jadd, jsub, jmul, jneg, jtol, b010, b011, pv_2t, Int.toNat_natCast, Option.some.injEq, exists_eq_left', if_true, if_false, show gRc 115 = 2 from rfl]
        exact hq
    | succ k ih =>
      intro i hi
      refine vs_ok 17 ?_
      rw [show ((gRes 115).drop 4).take 17 = [.iload 3, .iload 1, .if_icmp .ge 21, .iload 2, .iconst 1, .iload 0, .iconst 2, .iload 3, .imul, .ishr, .iconst 3, .iand, .ishl, .ior, .istore 2, .iinc 3 1, .goto 4] from rfl]
      simp (disch := omega) only [vs_imul, vs_iconst, vs_goto, vs_if_icmp, vs_iload0, vs_iload1, vs_iload2, vs_istore2n, vs_istore2i, vs_istore2r, vs_istore2l, vs_iload3, vs_iinc3n, vs_iinc3i, vs_iinc3r, vs_iinc3l, vs_nil, gv_0, gv_1, gv_2, gv_3, pv_0, pv_1, va_rf_s, vs_iand, vs_ior, vs_ishl, vs_ishr, Nat.reduceDiv, Nat.reduceMod, Nat.reduceAdd, Nat.reduceMul, Int.reduceToNat, true_and, and_true, and_self, cP_eq, cP_ne, cP_lt, cP_ge, cP_gt, cP_le, eL_i, eL_l, eL_r, eL_n, Option.toList_none, Option.toList_some, List.nil_append, List.cons_append, kkI, llI, nnI, rrI, jjI, kkJ, llJ, nnJ, rrJ, iiJ, zIIs, zJJs, nEF, nET, and_false, false_and, jmin, jmax, catS_n, catS_i, catS_r, catS_l, Nat.reduceLeDiff, j1eq1, n21, jt0, jt1, Bool.false_eq_true, Classical.not_not, true_or, or_true, false_or, or_false, true_imp_iff, false_imp_iff, not_true_eq_false, not_false_eq_true, jif0, jif1, jifb, ltT, ltF, leT, leF, eqT, eqF, jlt, jle, jeq, jlt0, jle0, jeq0, jge0, jgt0, jinB, jnat, clt, cle, ceq, cgt, cge, lI_add, lI_sub, lI_mul, jadd, jsub, jmul, jneg, jtol, b010, b011, pv_2t, Int.toNat_natCast, Option.some.injEq, exists_eq_left', if_true, if_false, tw2, jshr, jand3, jshl1, jor]
      exact ih (i + 1) (by omega)
  refine vs_ok 4 ?_
  rw [show ((gRes 115).drop 0).take 4 = [.iconst 0, .istore 2, .iconst 0, .istore 3] from rfl]
  simp (disch := omega) only [vs_iconst, vs_istore2n, vs_istore2i, vs_istore2r, vs_istore2l, vs_istore3n, vs_istore3i, vs_istore3r, vs_istore3l, vs_nil, gv_0, gv_1, gv_2, gv_3, pv_0, pv_1, va_rf_s, Nat.reduceDiv, Nat.reduceMod, Nat.reduceAdd, Nat.reduceMul, Int.reduceToNat, true_and, and_true, and_self, cP_eq, cP_ne, cP_lt, cP_ge, cP_gt, cP_le, eL_i, eL_l, eL_r, eL_n, Option.toList_none, Option.toList_some, List.nil_append, List.cons_append, kkI, llI, nnI, rrI, jjI, kkJ, llJ, nnJ, rrJ, iiJ, zIIs, zJJs, nEF, nET, and_false, false_and, jmin, jmax, catS_n, catS_i, catS_r, catS_l, Nat.reduceLeDiff, j1eq1, n21, jt0, jt1, Bool.false_eq_true, Classical.not_not, true_or, or_true, false_or, or_false, true_imp_iff, false_imp_iff, not_true_eq_false, not_false_eq_true, jif0, jif1, jifb, ltT, ltF, leT, leF, eqT, eqF, jlt, jle, jeq, jlt0, jle0, jeq0, jge0, jgt0, jinB, jnat, clt, cle, ceq, cgt, cge, lI_add, lI_sub, lI_mul, jadd, jsub, jmul, jneg, jtol, b010, b011, pv_2t, Int.toNat_natCast, Option.some.injEq, exists_eq_left', if_true, if_false]
  exact lp n 0 (by omega)
abbrev wcS : Type := (Nat → Nat) × (Nat → Nat) × (Nat → Nat) × (Nat → Nat)
/-- WordCount at w: n dice; ones, twos, threes, fours are s -/
def wcC (h : Hp) (w n : Nat) (s : wcS) : Prop := objA h w 9 wcL ∧ zI h w 5 = iI n ∧ (∀ i, i < 4 → zI h (w + 1) i = iI (s.1 i)) ∧ (∀ i, i < 16 → zI h (w + 2) i = iI (s.2.1 i)) ∧ (∀ i, i < 64 → zI h (w + 3) i = iI (s.2.2.1 i)) ∧ ∀ i, i < 256 → zI h (w + 4) i = iI (s.2.2.2 i)
theorem wcC.fi {S : Nat → Prop} {h g : Hp} {w n : Nat} {s : wcS} (hw : wcC h w n s) (f : fi S h g) (h0 : ¬ S w) (h1 : ¬ S (w + 1)) (h2 : ¬ S (w + 2)) (h3 : ¬ S (w + 3)) (h4 : ¬ S (w + 4)) : wcC g w n s := by
  obtain ⟨a, b, c, e, u, v⟩ := hw
  have r := f.1.2.2.2.2.2.1
  exact ⟨a.fi f, by rw [r _ h0]; exact b, by rw [r _ h1]; exact c, by rw [r _ h2]; exact e, by rw [r _ h3]; exact u, by rw [r _ h4]; exact v⟩
theorem t_wcStart {d : Nat} {h : Hp} {w n : Nat} {Q : Nat → Option Value → Hp → Prop} (ho : objA h w 9 wcL) (hn : n ≤ 4) (hq : ∀ h', fi (fun q => w ≤ q ∧ q ≤ w + 4) h h' → wcC h' w n (fun _ => 0, fun _ => 0, fun _ => 0, fun _ => 0) → Q 0 none h') : PR (d + 1) m_WordCount_start [.ref w, .int (iI n)] h Q := by
  show PW (d + 1) 113 0 [some (.ref w), some (.int (iI n))] [] h Q
  refine vs_ok 5 ?_
  rw [show ((gRes 113).drop 0).take 5 = [.aload 0, .iload 1, .iconst 4, .invokedynamic 3, .putfield 9050] from rfl]
  simp (disch := omega) only [vs_iconst, vs_putfield, vs_aload0, vs_iload1, vs_nil, gv_0, gv_1, gv_2, gv_3, pv_0, pv_1, va_rf_s, vs_abs, vs_max, vs_min, vs_oinit, Nat.reduceDiv, Nat.reduceMod, Nat.reduceAdd, Nat.reduceMul, Int.reduceToNat, true_and, and_true, and_self, cP_eq, cP_ne, cP_lt, cP_ge, cP_gt, cP_le, eL_i, eL_l, eL_r, eL_n, Option.toList_none, Option.toList_some, List.nil_append, List.cons_append, kkI, llI, nnI, rrI, jjI, kkJ, llJ, nnJ, rrJ, iiJ, zIIs, zJJs, nEF, nET, and_false, false_and, jmin, jmax, catS_n, catS_i, catS_r, catS_l, Nat.reduceLeDiff, j1eq1, n21, jt0, jt1, Bool.false_eq_true, Classical.not_not, true_or, or_true, false_or, or_false, true_imp_iff, false_imp_iff, not_true_eq_false, not_false_eq_true, jif0, jif1, jifb, ltT, ltF, leT, leF, eqT, eqF, jlt, jle, jeq, jlt0, jle0, jeq0, jge0, jgt0, jinB, jnat, clt, cle, ceq, cgt, cge, lI_add, lI_sub, lI_mul, jadd, jsub, jmul, jneg, jtol, b010, b011, pv_2t, Int.toNat_natCast, Option.some.injEq, exists_eq_left', if_true, if_false, wcF ho, show min (n : Int) 4 = (n : Int) by omega]
  have f0 : fi (fun q => q = w) h (zsI h w 5 (iI n)) := fi_I rfl
  have z0 : zI (zsI h w 5 (iI n)) w 5 = iI n := by rw [zI_s, if_pos ⟨rfl, rfl⟩]
  generalize zsI h w 5 (iI n) = g0 at *
  have o0 := ho.fi f0
  have n0 := wcF o0
  refine vs_ok 3 ?_
  rw [show ((gRes 113).drop 5).take 3 = [.aload 0, .getfield 9002, .iconst 0] from rfl]
  simp (disch := omega) only [vs_iconst, vs_getfield, vs_aload0, vs_nil, gv_0, gv_1, gv_2, gv_3, pv_0, pv_1, va_rf_s, Nat.reduceDiv, Nat.reduceMod, Nat.reduceAdd, Nat.reduceMul, Int.reduceToNat, true_and, and_true, and_self, cP_eq, cP_ne, cP_lt, cP_ge, cP_gt, cP_le, eL_i, eL_l, eL_r, eL_n, Option.toList_none, Option.toList_some, List.nil_append, List.cons_append, kkI, llI, nnI, rrI, jjI, kkJ, llJ, nnJ, rrJ, iiJ, zIIs, zJJs, nEF, nET, and_false, false_and, jmin, jmax, catS_n, catS_i, catS_r, catS_l, Nat.reduceLeDiff, j1eq1, n21, jt0, jt1, Bool.false_eq_true, Classical.not_not, true_or, or_true, false_or, or_false, true_imp_iff, false_imp_iff, not_true_eq_false, not_false_eq_true, jif0, jif1, jifb, ltT, ltF, leT, leF, eqT, eqF, jlt, jle, jeq, jlt0, jle0, jeq0, jge0, jgt0, jinB, jnat, clt, cle, ceq, cgt, cge, lI_add, lI_sub, lI_mul, jadd, jsub, jmul, jneg, jtol, b010, b011, pv_2t, Int.toNat_natCast, Option.some.injEq, exists_eq_left', if_true, if_false, n0]
  refine PW.ss (r := []) rfl (le_b rfl) rfl rfl (le_b rfl) (le_b rfl) ?_
  refine t_fillI n0.2.1.2.1 n0.2.1.2.2.1 n0.2.1.2.2.2 (by omega) fun g1 f1 i1 => ⟨rfl, ⟨f1.1.2.2.1, rfl⟩, ?_⟩
  have o1 := o0.fi f1
  have n1 := wcF o1
  refine vs_ok 3 ?_
  rw [show ((gRes 113).drop 9).take 3 = [.aload 0, .getfield 9012, .iconst 0] from rfl]
  simp (disch := omega) only [vs_iconst, vs_getfield, vs_aload0, vs_nil, gv_0, gv_1, gv_2, gv_3, pv_0, pv_1, va_rf_s, Nat.reduceDiv, Nat.reduceMod, Nat.reduceAdd, Nat.reduceMul, Int.reduceToNat, true_and, and_true, and_self, cP_eq, cP_ne, cP_lt, cP_ge, cP_gt, cP_le, eL_i, eL_l, eL_r, eL_n, Option.toList_none, Option.toList_some, List.nil_append, List.cons_append, kkI, llI, nnI, rrI, jjI, kkJ, llJ, nnJ, rrJ, iiJ, zIIs, zJJs, nEF, nET, and_false, false_and, jmin, jmax, catS_n, catS_i, catS_r, catS_l, Nat.reduceLeDiff, j1eq1, n21, jt0, jt1, Bool.false_eq_true, Classical.not_not, true_or, or_true, false_or, or_false, true_imp_iff, false_imp_iff, not_true_eq_false, not_false_eq_true, jif0, jif1, jifb, ltT, ltF, leT, leF, eqT, eqF, jlt, jle, jeq, jlt0, jle0, jeq0, jge0, jgt0, jinB, jnat, clt, cle, ceq, cgt, cge, lI_add, lI_sub, lI_mul, jadd, jsub, jmul, jneg, jtol, b010, b011, pv_2t, Int.toNat_natCast, Option.some.injEq, exists_eq_left', if_true, if_false, n1]
  refine PW.ss (r := []) rfl (le_b rfl) rfl rfl (le_b rfl) (le_b rfl) ?_
  refine t_fillI n1.2.2.1.2.1 n1.2.2.1.2.2.1 n1.2.2.1.2.2.2 (by omega) fun g2 f2 i2 => ⟨rfl, ⟨f2.1.2.2.1, rfl⟩, ?_⟩
  have o2 := o1.fi f2
  have n2 := wcF o2
  refine vs_ok 3 ?_
  rw [show ((gRes 113).drop 13).take 3 = [.aload 0, .getfield 9022, .iconst 0] from rfl]
  simp (disch := omega) only [vs_iconst, vs_getfield, vs_aload0, vs_nil, gv_0, gv_1, gv_2, gv_3, pv_0, pv_1, va_rf_s, Nat.reduceDiv, Nat.reduceMod, Nat.reduceAdd, Nat.reduceMul, Int.reduceToNat, true_and, and_true, and_self, cP_eq, cP_ne, cP_lt, cP_ge, cP_gt, cP_le, eL_i, eL_l, eL_r, eL_n, Option.toList_none, Option.toList_some, List.nil_append, List.cons_append, kkI, llI, nnI, rrI, jjI, kkJ, llJ, nnJ, rrJ, iiJ, zIIs, zJJs, nEF, nET, and_false, false_and, jmin, jmax, catS_n, catS_i, catS_r, catS_l, Nat.reduceLeDiff, j1eq1, n21, jt0, jt1, Bool.false_eq_true, Classical.not_not, true_or, or_true, false_or, or_false, true_imp_iff, false_imp_iff, not_true_eq_false, not_false_eq_true, jif0, jif1, jifb, ltT, ltF, leT, leF, eqT, eqF, jlt, jle, jeq, jlt0, jle0, jeq0, jge0, jgt0, jinB, jnat, clt, cle, ceq, cgt, cge, lI_add, lI_sub, lI_mul, jadd, jsub, jmul, jneg, jtol, b010, b011, pv_2t, Int.toNat_natCast, Option.some.injEq, exists_eq_left', if_true, if_false, n2]
  refine PW.ss (r := []) rfl (le_b rfl) rfl rfl (le_b rfl) (le_b rfl) ?_
  refine t_fillI n2.2.2.2.1.2.1 n2.2.2.2.1.2.2.1 n2.2.2.2.1.2.2.2 (by omega) fun g3 f3 i3 => ⟨rfl, ⟨f3.1.2.2.1, rfl⟩, ?_⟩
  have o3 := o2.fi f3
  have n3 := wcF o3
  refine vs_ok 3 ?_
  rw [show ((gRes 113).drop 17).take 3 = [.aload 0, .getfield 9032, .iconst 0] from rfl]
  simp (disch := omega) only [vs_iconst, vs_getfield, vs_aload0, vs_nil, gv_0, gv_1, gv_2, gv_3, pv_0, pv_1, va_rf_s, Nat.reduceDiv, Nat.reduceMod, Nat.reduceAdd, Nat.reduceMul, Int.reduceToNat, true_and, and_true, and_self, cP_eq, cP_ne, cP_lt, cP_ge, cP_gt, cP_le, eL_i, eL_l, eL_r, eL_n, Option.toList_none, Option.toList_some, List.nil_append, List.cons_append, kkI, llI, nnI, rrI, jjI, kkJ, llJ, nnJ, rrJ, iiJ, zIIs, zJJs, nEF, nET, and_false, false_and, jmin, jmax, catS_n, catS_i, catS_r, catS_l, Nat.reduceLeDiff, j1eq1, n21, jt0, jt1, Bool.false_eq_true, Classical.not_not, true_or, or_true, false_or, or_false, true_imp_iff, false_imp_iff, not_true_eq_false, not_false_eq_true, jif0, jif1, jifb, ltT, ltF, leT, leF, eqT, eqF, jlt, jle, jeq, jlt0, jle0, jeq0, jge0, jgt0, jinB, jnat, clt, cle, ceq, cgt, cge, lI_add, lI_sub, lI_mul, jadd, jsub, jmul, jneg, jtol, b010, b011, pv_2t, Int.toNat_natCast, Option.some.injEq, exists_eq_left', if_true, if_false, n3]
  refine PW.ss (r := []) rfl (le_b rfl) rfl rfl (le_b rfl) (le_b rfl) ?_
  refine t_fillI n3.2.2.2.2.1.2.1 n3.2.2.2.2.1.2.2.1 n3.2.2.2.2.1.2.2.2 (by omega) fun g4 f4 i4 => ⟨rfl, ⟨f4.1.2.2.1, rfl⟩, ?_⟩
  refine vs_ok 1 ?_
  rw [show ((gRes 113).drop 21).take 1 = [.return_] from rfl]
  simp (disch := omega) only [vs_return_, vs_nil, gv_0, gv_1, gv_2, gv_3, pv_0, pv_1, va_rf_s, Nat.reduceDiv, Nat.reduceMod, Nat.reduceAdd, Nat.reduceMul, Int.reduceToNat, true_and, and_true, and_self, cP_eq, cP_ne, cP_lt, cP_ge, cP_gt, cP_le, eL_i, eL_l, eL_r, eL_n, Option.toList_none, Option.toList_some, List.nil_append, List.cons_append, kkI, llI, nnI, rrI, jjI, kkJ, llJ, nnJ, rrJ, iiJ, zIIs, zJJs, nEF, nET, and_false, false_and, jmin, jmax, catS_n, catS_i, catS_r, catS_l, Nat.reduceLeDiff, j1eq1, n21, jt0, jt1, Bool.false_eq_true, Classical.not_not, true_or, or_true, false_or, or_false, true_imp_iff, false_imp_iff, not_true_eq_false, not_false_eq_true, jif0, jif1, jifb, ltT, ltF, leT, leF, eqT, eqF, jlt, jle, jeq, jlt0, jle0, jeq0, jge0, jgt0, jinB, jnat, clt, cle, ceq, cgt, cge, lI_add, lI_sub, lI_mul, jadd, jsub, jmul, jneg, jtol, b010, b011, pv_2t, Int.toNat_natCast, Option.some.injEq, exists_eq_left', if_true, if_false, show gRc 113 = 0 from rfl]
  have r1 := f1.1.2.2.2.2.2.1
  have r2 := f2.1.2.2.2.2.2.1
  have r3 := f3.1.2.2.2.2.2.1
  have r4 := f4.1.2.2.2.2.2.1
  refine hq g4 ((f0.wk fun q z => by omega).tr ((f1.wk fun q z => by omega).tr ((f2.wk fun q z => by omega).tr ((f3.wk fun q z => by omega).tr (f4.wk fun q z => by omega))))) ⟨o3.fi f4, ?_, fun i hi => ?_, fun i hi => ?_, fun i hi => ?_, fun i hi => i4 i hi⟩
  · rw [r4 _ (by omega), r3 _ (by omega), r2 _ (by omega), r1 _ (by omega)]
    exact z0
  · rw [r4 _ (by omega), r3 _ (by omega), r2 _ (by omega)]
    exact i1 i hi
  · rw [r4 _ (by omega), r3 _ (by omega)]
    exact i2 i hi
  · rw [r4 _ (by omega)]
    exact i3 i hi
/-- one more FACE of die c, greater than all: rows of m dice, made of rows of m - 1 -/
def upF (m c : Nat) (a b : Nat → Nat) (q : Nat) : Nat := if q % 4 = c ∧ ofU q m = true then a q + b (q / 4) else a q
def wcT (n c : Nat) (s : wcS) : wcS := (fun i => if i = c then s.1 i + 1 else s.1 i, upF 2 c s.2.1 s.1, if 3 ≤ n then upF 3 c s.2.2.1 s.2.1 else s.2.2.1, if 4 ≤ n then upF 4 c s.2.2.2 s.2.2.1 else s.2.2.2)
theorem t_takeL4 {d : Nat} {g0 : Hp} {w n c : Nat} {sa sb : Nat → Nat} {o : Option Value} {Q : Nat → Option Value → Hp → Prop} (ho : objA g0 w 9 wcL) (h5 : zI g0 w 5 = iI n) (hn : 4 ≤ n ∧ n ≤ 4) (hc : c < n) (hb : ∀ i, i < 64 → zI g0 (w + 3) i = iI (sb i)) (ha : ∀ i, i < 256 → zI g0 (w + 4) i = iI (sa i))
    (K : ∀ g o, fi (fun a => a = w + 4) g0 g → (∀ i, i < 256 → zI g (w + 4) i = iI (upF 4 c sa sb i)) → PW (d + 2) 114 42 [some (.ref w), some (.int (iI c)), o] [] g Q) : PW (d + 2) 114 7 [some (.ref w), some (.int (iI c)), o] [] g0 Q := by
  have lp : ∀ (k q : Nat) (g : Hp), k + q = 256 → fi (fun a => a = w + 4) g0 g → (∀ i, i < 256 → zI g (w + 4) i = iI (if i < q then upF 4 c sa sb i else sa i : Nat)) → PW (d + 2) 114 9 [some (.ref w), some (.int (iI c)), some (.int (iI q))] [] g Q := by
    intro k
    induction k with
    | zero =>
      intro q g hk f e2
      have e : q = 256 := by omega
      subst e
      have go := ho.fi f
      refine vs_ok 5 ?_
      rw [show ((gRes 114).drop 9).take 5 = [.iload 2, .aload 0, .getfield 9032, .arraylength, .if_icmp .ge 42] from rfl]
      simp (disch := omega) only [vs_if_icmp, vs_getfield, vs_arraylength, vs_aload0, vs_iload2, vs_nil, gv_0, gv_1, gv_2, gv_3, pv_0, pv_1, va_rf_s, Nat.reduceDiv, Nat.reduceMod, Nat.reduceAdd, Nat.reduceMul, Int.reduceToNat, true_and, and_true, and_self, cP_eq, cP_ne, cP_lt, cP_ge, cP_gt, cP_le, eL_i, eL_l, eL_r, eL_n, Option.toList_none, Option.toList_some, List.nil_append, List.cons_append, kkI, llI, nnI, rrI, jjI, kkJ, llJ, nnJ, rrJ, iiJ, zIIs, zJJs, nEF, nET, and_false, false_and, jmin, jmax, catS_n, catS_i, catS_r, catS_l, Nat.reduceLeDiff, j1eq1, n21, jt0, jt1, Bool.false_eq_true, Classical.not_not, true_or, or_true, false_or, or_false, true_imp_iff, false_imp_iff, not_true_eq_false, not_false_eq_true, jif0, jif1, jifb, ltT, ltF, leT, leF, eqT, eqF, jlt, jle, jeq, jlt0, jle0, jeq0, jge0, jgt0, jinB, jnat, clt, cle, ceq, cgt, cge, lI_add, lI_sub, lI_mul, jadd, jsub, jmul, jneg, jtol, b010, b011, pv_2t, Int.toNat_natCast, Option.some.injEq, exists_eq_left', if_true, if_false, wcF go, or_true, true_or, show Int32.ofNat 256 = iI 256 from rfl]
      exact K g _ f fun i hi => by rw [e2 i hi, if_pos hi]
    | succ k ih =>
      intro q g hk f e2
      have go := ho.fi f
      have g5 : zI g w 5 = iI n := by rw [f.1.2.2.2.2.2.1 w (by omega)]; exact h5
      have e1 : zI g (w + 3) = zI g0 (w + 3) := f.1.2.2.2.2.2.1 _ (by omega)
      have no : ¬ (q % 4 = c ∧ ofU q 4 = true) → PW (d + 2) 114 40 [some (.ref w), some (.int (iI c)), some (.int (iI q))] [] g Q := fun z => by
        refine vs_ok 2 ?_
        rw [show ((gRes 114).drop 40).take 2 = [.iinc 2 1, .goto 9] from rfl]
        simp (disch := omega) only [vs_goto, vs_iinc2n, vs_iinc2i, vs_iinc2r, vs_iinc2l, vs_nil, gv_0, gv_1, gv_2, gv_3, pv_0, pv_1, va_rf_s, Nat.reduceDiv, Nat.reduceMod, Nat.reduceAdd, Nat.reduceMul, Int.reduceToNat, true_and, and_true, and_self, cP_eq, cP_ne, cP_lt, cP_ge, cP_gt, cP_le, eL_i, eL_l, eL_r, eL_n, Option.toList_none, Option.toList_some, List.nil_append, List.cons_append, kkI, llI, nnI, rrI, jjI, kkJ, llJ, nnJ, rrJ, iiJ, zIIs, zJJs, nEF, nET, and_false, false_and, jmin, jmax, catS_n, catS_i, catS_r, catS_l, Nat.reduceLeDiff, j1eq1, n21, jt0, jt1, Bool.false_eq_true, Classical.not_not, true_or, or_true, false_or, or_false, true_imp_iff, false_imp_iff, not_true_eq_false, not_false_eq_true, jif0, jif1, jifb, ltT, ltF, leT, leF, eqT, eqF, jlt, jle, jeq, jlt0, jle0, jeq0, jge0, jgt0, jinB, jnat, clt, cle, ceq, cgt, cge, lI_add, lI_sub, lI_mul, jadd, jsub, jmul, jneg, jtol, b010, b011, pv_2t, Int.toNat_natCast, Option.some.injEq, exists_eq_left', if_true, if_false]
        refine ih (q + 1) g (by omega) f fun i hi => ?_
        rw [e2 i hi]
        by_cases y : i = q
        · subst y
          rw [if_neg (by omega), if_pos (by omega)]
          unfold upF
          rw [if_neg z]
        · by_cases y2 : i < q
          · rw [if_pos y2, if_pos (by omega)]
          · rw [if_neg y2, if_neg (by omega)]
      by_cases c1 : q % 4 = c
      · refine vs_ok 16 ?_
        rw [show ((gRes 114).drop 9).take 16 = [.iload 2, .aload 0, .getfield 9032, .arraylength, .if_icmp .ge 42, .aload 0, .getfield 9050, .iconst 4, .if_icmp .lt 42, .iload 2, .iconst 3, .iand, .iload 1, .if_icmp .ne 40, .iload 2, .iconst 4] from rfl]
        simp (disch := omega) only [vs_iconst, vs_if_icmp, vs_getfield, vs_arraylength, vs_aload0, vs_iload1, vs_iload2, vs_nil, gv_0, gv_1, gv_2, gv_3, pv_0, pv_1, va_rf_s, vs_iand, Nat.reduceDiv, Nat.reduceMod, Nat.reduceAdd, Nat.reduceMul, Int.reduceToNat, true_and, and_true, and_self, cP_eq, cP_ne, cP_lt, cP_ge, cP_gt, cP_le, eL_i, eL_l, eL_r, eL_n, Option.toList_none, Option.toList_some, List.nil_append, List.cons_append, kkI, llI, nnI, rrI, jjI, kkJ, llJ, nnJ, rrJ, iiJ, zIIs, zJJs, nEF, nET, and_false, false_and, jmin, jmax, catS_n, catS_i, catS_r, catS_l, Nat.reduceLeDiff, j1eq1, n21, jt0, jt1, Bool.false_eq_true, Classical.not_not, true_or, or_true, false_or, or_false, true_imp_iff, false_imp_iff, not_true_eq_false, not_false_eq_true, jif0, jif1, jifb, ltT, ltF, leT, leF, eqT, eqF, jlt, jle, jeq, jlt0, jle0, jeq0, jge0, jgt0, jinB, jnat, clt, cle, ceq, cgt, cge, lI_add, lI_sub, lI_mul, jadd, jsub, jmul, jneg, jtol, b010, b011, pv_2t, Int.toNat_natCast, Option.some.injEq, exists_eq_left', if_true, if_false, wcF go, g5, or_true, true_or, show Int32.ofNat 256 = iI 256 from rfl, jand3]
        refine PW.ss (r := []) rfl (le_b rfl) rfl rfl (le_b rfl) (le_b rfl) ?_
        refine t_isOfUnlike (n := 4) (by omega) (by omega) ⟨rfl, ⟨rfl, rfl⟩, ?_⟩
        by_cases c2 : ofU q 4 = true
        · have hdv : q / 2 ^ 2 = q / 4 := rfl
          have q4 : q / 4 < 64 := by omega
          have js : iI (q : Int) >>> (Int32.ofInt 2 &&& 31) = iI ((q / 4 : Nat) : Int) := jshr q 2 (by omega) (by omega)
          have e2q := e2 q (by omega)
          rw [if_neg (by omega)] at e2q
          refine vs_ok 14 ?_
          rw [show ((gRes 114).drop 26).take 14 = [.ifCond .eq 40, .aload 0, .getfield 9032, .iload 2, .dup2, .iaload, .aload 0, .getfield 9022, .iload 2, .iconst 2, .ishr, .iaload, .iadd, .iastore] from rfl]
          simp (disch := omega) only [vs_iadd, vs_iconst, vs_ifCond, vs_getfield, vs_iaload, vs_iastore, vs_dup2, vs_aload0, vs_iload2, vs_nil, gv_0, gv_1, gv_2, gv_3, pv_0, pv_1, va_rf_s, vs_ishr, Nat.reduceDiv, Nat.reduceMod, Nat.reduceAdd, Nat.reduceMul, Int.reduceToNat, true_and, and_true, and_self, cP_eq, cP_ne, cP_lt, cP_ge, cP_gt, cP_le, eL_i, eL_l, eL_r, eL_n, Option.toList_none, Option.toList_some, List.nil_append, List.cons_append, kkI, llI, nnI, rrI, jjI, kkJ, llJ, nnJ, rrJ, iiJ, zIIs, zJJs, nEF, nET, and_false, false_and, jmin, jmax, catS_n, catS_i, catS_r, catS_l, Nat.reduceLeDiff, j1eq1, n21, jt0, jt1, Bool.false_eq_true, Classical.not_not, true_or, or_true, false_or, or_false, true_imp_iff, false_imp_iff, not_true_eq_false, not_false_eq_true, jif0, jif1, jifb, ltT, ltF, leT, leF, eqT, eqF, jlt, jle, jeq, jlt0, jle0, jeq0, jge0, jgt0, jinB, jnat, clt, cle, ceq, cgt, cge, lI_add, lI_sub, lI_mul, jadd, jsub, jmul, jneg, jtol, b010, b011, pv_2t, Int.toNat_natCast, Option.some.injEq, exists_eq_left', if_true, if_false, wcF go, eq_true c2, e1, js, hb (q / 4) q4, e2q]
          refine vs_ok 2 ?_
          rw [show ((gRes 114).drop 40).take 2 = [.iinc 2 1, .goto 9] from rfl]
          simp (disch := omega) only [vs_goto, vs_iinc2n, vs_iinc2i, vs_iinc2r, vs_iinc2l, vs_nil, gv_0, gv_1, gv_2, gv_3, pv_0, pv_1, va_rf_s, Nat.reduceDiv, Nat.reduceMod, Nat.reduceAdd, Nat.reduceMul, Int.reduceToNat, true_and, and_true, and_self, cP_eq, cP_ne, cP_lt, cP_ge, cP_gt, cP_le, eL_i, eL_l, eL_r, eL_n, Option.toList_none, Option.toList_some, List.nil_append, List.cons_append, kkI, llI, nnI, rrI, jjI, kkJ, llJ, nnJ, rrJ, iiJ, zIIs, zJJs, nEF, nET, and_false, false_and, jmin, jmax, catS_n, catS_i, catS_r, catS_l, Nat.reduceLeDiff, j1eq1, n21, jt0, jt1, Bool.false_eq_true, Classical.not_not, true_or, or_true, false_or, or_false, true_imp_iff, false_imp_iff, not_true_eq_false, not_false_eq_true, jif0, jif1, jifb, ltT, ltF, leT, leF, eqT, eqF, jlt, jle, jeq, jlt0, jle0, jeq0, jge0, jgt0, jinB, jnat, clt, cle, ceq, cgt, cge, lI_add, lI_sub, lI_mul, jadd, jsub, jmul, jneg, jtol, b010, b011, pv_2t, Int.toNat_natCast, Option.some.injEq, exists_eq_left', if_true, if_false]
          refine ih (q + 1) _ (by omega) (f.I rfl) fun i hi => ?_
          rw [zI_s]
          by_cases y : i = q
          · subst y
            rw [if_pos ⟨rfl, rfl⟩, if_pos (by omega)]
            unfold upF
            rw [if_pos ⟨c1, c2⟩]
            rfl
          · rw [if_neg (fun z => y z.2), e2 i hi]
            by_cases y2 : i < q
            · rw [if_pos y2, if_pos (by omega)]
            · rw [if_neg y2, if_neg (by omega)]
        · refine vs_ok 1 ?_
          rw [show ((gRes 114).drop 26).take 1 = [.ifCond .eq 40] from rfl]
          simp (disch := omega) only [vs_ifCond, vs_nil, gv_0, gv_1, gv_2, gv_3, pv_0, pv_1, va_rf_s, Nat.reduceDiv, Nat.reduceMod, Nat.reduceAdd, Nat.reduceMul, Int.reduceToNat, true_and, and_true, and_self, cP_eq, cP_ne, cP_lt, cP_ge, cP_gt, cP_le, eL_i, eL_l, eL_r, eL_n, Option.toList_none, Option.toList_some, List.nil_append, List.cons_append, kkI, llI, nnI, rrI, jjI, kkJ, llJ, nnJ, rrJ, iiJ, zIIs, zJJs, nEF, nET, and_false, false_and, jmin, jmax, catS_n, catS_i, catS_r, catS_l, Nat.reduceLeDiff, j1eq1, n21, jt0, jt1, Bool.false_eq_true, Classical.not_not, true_or, or_true, false_or, or_false, true_imp_iff, false_imp_iff, not_true_eq_false, not_false_eq_true, jif0, jif1, jifb, ltT, ltF, leT, leF, eqT, eqF, jlt, jle, jeq, jlt0, jle0, jeq0, jge0, jgt0, jinB, jnat, clt, cle, ceq, cgt, cge, lI_add, lI_sub, lI_mul, jadd, jsub, jmul, jneg, jtol, b010, b011, pv_2t, Int.toNat_natCast, Option.some.injEq, exists_eq_left', if_true, if_false, eq_false c2]
          exact no fun z => c2 z.2
      · refine vs_ok 16 ?_
        rw [show ((gRes 114).drop 9).take 16 = [.iload 2, .aload 0, .getfield 9032, .arraylength, .if_icmp .ge 42, .aload 0, .getfield 9050, .iconst 4, .if_icmp .lt 42, .iload 2, .iconst 3, .iand, .iload 1, .if_icmp .ne 40, .iload 2, .iconst 4] from rfl]
        simp (disch := omega) only [vs_iconst, vs_if_icmp, vs_getfield, vs_arraylength, vs_aload0, vs_iload1, vs_iload2, vs_nil, gv_0, gv_1, gv_2, gv_3, pv_0, pv_1, va_rf_s, vs_iand, Nat.reduceDiv, Nat.reduceMod, Nat.reduceAdd, Nat.reduceMul, Int.reduceToNat, true_and, and_true, and_self, cP_eq, cP_ne, cP_lt, cP_ge, cP_gt, cP_le, eL_i, eL_l, eL_r, eL_n, Option.toList_none, Option.toList_some, List.nil_append, List.cons_append, kkI, llI, nnI, rrI, jjI, kkJ, llJ, nnJ, rrJ, iiJ, zIIs, zJJs, nEF, nET, and_false, false_and, jmin, jmax, catS_n, catS_i, catS_r, catS_l, Nat.reduceLeDiff, j1eq1, n21, jt0, jt1, Bool.false_eq_true, Classical.not_not, true_or, or_true, false_or, or_false, true_imp_iff, false_imp_iff, not_true_eq_false, not_false_eq_true, jif0, jif1, jifb, ltT, ltF, leT, leF, eqT, eqF, jlt, jle, jeq, jlt0, jle0, jeq0, jge0, jgt0, jinB, jnat, clt, cle, ceq, cgt, cge, lI_add, lI_sub, lI_mul, jadd, jsub, jmul, jneg, jtol, b010, b011, pv_2t, Int.toNat_natCast, Option.some.injEq, exists_eq_left', if_true, if_false, wcF go, g5, or_true, true_or, show Int32.ofNat 256 = iI 256 from rfl, jand3]
        exact no fun z => c1 z.1
  refine vs_ok 2 ?_
  rw [show ((gRes 114).drop 7).take 2 = [.iconst 0, .istore 2] from rfl]
  simp (disch := omega) only [vs_iconst, vs_istore2n, vs_istore2i, vs_istore2r, vs_istore2l, vs_nil, gv_0, gv_1, gv_2, gv_3, pv_0, pv_1, va_rf_s, Nat.reduceDiv, Nat.reduceMod, Nat.reduceAdd, Nat.reduceMul, Int.reduceToNat, true_and, and_true, and_self, cP_eq, cP_ne, cP_lt, cP_ge, cP_gt, cP_le, eL_i, eL_l, eL_r, eL_n, Option.toList_none, Option.toList_some, List.nil_append, List.cons_append, kkI, llI, nnI, rrI, jjI, kkJ, llJ, nnJ, rrJ, iiJ, zIIs, zJJs, nEF, nET, and_false, false_and, jmin, jmax, catS_n, catS_i, catS_r, catS_l, Nat.reduceLeDiff, j1eq1, n21, jt0, jt1, Bool.false_eq_true, Classical.not_not, true_or, or_true, false_or, or_false, true_imp_iff, false_imp_iff, not_true_eq_false, not_false_eq_true, jif0, jif1, jifb, ltT, ltF, leT, leF, eqT, eqF, jlt, jle, jeq, jlt0, jle0, jeq0, jge0, jgt0, jinB, jnat, clt, cle, ceq, cgt, cge, lI_add, lI_sub, lI_mul, jadd, jsub, jmul, jneg, jtol, b010, b011, pv_2t, Int.toNat_natCast, Option.some.injEq, exists_eq_left', if_true, if_false]
  exact lp 256 0 g0 (by omega) fi.rf fun i hi => by rw [if_neg (by omega)]; exact ha i hi
theorem t_takeL3 {d : Nat} {g0 : Hp} {w n c : Nat} {sa sb : Nat → Nat} {o : Option Value} {Q : Nat → Option Value → Hp → Prop} (ho : objA g0 w 9 wcL) (h5 : zI g0 w 5 = iI n) (hn : 3 ≤ n ∧ n ≤ 4) (hc : c < n) (hb : ∀ i, i < 16 → zI g0 (w + 2) i = iI (sb i)) (ha : ∀ i, i < 64 → zI g0 (w + 3) i = iI (sa i))
    (K : ∀ g o, fi (fun a => a = w + 3) g0 g → (∀ i, i < 64 → zI g (w + 3) i = iI (upF 3 c sa sb i)) → PW (d + 2) 114 77 [some (.ref w), some (.int (iI c)), o] [] g Q) : PW (d + 2) 114 42 [some (.ref w), some (.int (iI c)), o] [] g0 Q := by
  have lp : ∀ (k q : Nat) (g : Hp), k + q = 64 → fi (fun a => a = w + 3) g0 g → (∀ i, i < 64 → zI g (w + 3) i = iI (if i < q then upF 3 c sa sb i else sa i : Nat)) → PW (d + 2) 114 44 [some (.ref w), some (.int (iI c)), some (.int (iI q))] [] g Q := by
    intro k
    induction k with
    | zero =>
      intro q g hk f e2
      have e : q = 64 := by omega
      subst e
      have go := ho.fi f
      refine vs_ok 5 ?_
      rw [show ((gRes 114).drop 44).take 5 = [.iload 2, .aload 0, .getfield 9022, .arraylength, .if_icmp .ge 77] from rfl]
      simp (disch := omega) only [vs_if_icmp, vs_getfield, vs_arraylength, vs_aload0, vs_iload2, vs_nil, gv_0, gv_1, gv_2, gv_3, pv_0, pv_1, va_rf_s, Nat.reduceDiv, Nat.reduceMod, Nat.reduceAdd, Nat.reduceMul, Int.reduceToNat, true_and, and_true, and_self, cP_eq, cP_ne, cP_lt, cP_ge, cP_gt, cP_le, eL_i, eL_l, eL_r, eL_n, Option.toList_none, Option.toList_some, List.nil_append, List.cons_append, kkI, llI, nnI, rrI, jjI, kkJ, llJ, nnJ, rrJ, iiJ, zIIs, zJJs, nEF, nET, and_false, false_and, jmin, jmax, catS_n, catS_i, catS_r, catS_l, Nat.reduceLeDiff, j1eq1, n21, jt0, jt1, Bool.false_eq_true, Classical.not_not, true_or, or_true, false_or, or_false, true_imp_iff, false_imp_iff, not_true_eq_false, not_false_eq_true, jif0, jif1, jifb, ltT, ltF, leT, leF, eqT, eqF, jlt, jle, jeq, jlt0, jle0, jeq0, jge0, jgt0, jinB, jnat, clt, cle, ceq, cgt, cge, lI_add, lI_sub, lI_mul, jadd, jsub, jmul, jneg, jtol, b010, b011, pv_2t, Int.toNat_natCast, Option.some.injEq, exists_eq_left', if_true, if_false, wcF go, or_true, true_or, show Int32.ofNat 64 = iI 64 from rfl]
      exact K g _ f fun i hi => by rw [e2 i hi, if_pos hi]
    | succ k ih =>
      intro q g hk f e2
      have go := ho.fi f
      have g5 : zI g w 5 = iI n := by rw [f.1.2.2.2.2.2.1 w (by omega)]; exact h5
      have e1 : zI g (w + 2) = zI g0 (w + 2) := f.1.2.2.2.2.2.1 _ (by omega)
      have no : ¬ (q % 4 = c ∧ ofU q 3 = true) → PW (d + 2) 114 75 [some (.ref w), some (.int (iI c)), some (.int (iI q))] [] g Q := fun z => by
        refine vs_ok 2 ?_
        rw [show ((gRes 114).drop 75).take 2 = [.iinc 2 1, .goto 44] from rfl]
        simp (disch := omega) only [vs_goto, vs_iinc2n, vs_iinc2i, vs_iinc2r, vs_iinc2l, vs_nil, gv_0, gv_1, gv_2, gv_3, pv_0, pv_1, va_rf_s, Nat.reduceDiv, Nat.reduceMod, Nat.reduceAdd, Nat.reduceMul, Int.reduceToNat, true_and, and_true, and_self, cP_eq, cP_ne, cP_lt, cP_ge, cP_gt, cP_le, eL_i, eL_l, eL_r, eL_n, Option.toList_none, Option.toList_some, List.nil_append, List.cons_append, kkI, llI, nnI, rrI, jjI, kkJ, llJ, nnJ, rrJ, iiJ, zIIs, zJJs, nEF, nET, and_false, false_and, jmin, jmax, catS_n, catS_i, catS_r, catS_l, Nat.reduceLeDiff, j1eq1, n21, jt0, jt1, Bool.false_eq_true, Classical.not_not, true_or, or_true, false_or, or_false, true_imp_iff, false_imp_iff, not_true_eq_false, not_false_eq_true, jif0, jif1, jifb, ltT, ltF, leT, leF, eqT, eqF, jlt, jle, jeq, jlt0, jle0, jeq0, jge0, jgt0, jinB, jnat, clt, cle, ceq, cgt, cge, lI_add, lI_sub, lI_mul, jadd, jsub, jmul, jneg, jtol, b010, b011, pv_2t, Int.toNat_natCast, Option.some.injEq, exists_eq_left', if_true, if_false]
        refine ih (q + 1) g (by omega) f fun i hi => ?_
        rw [e2 i hi]
        by_cases y : i = q
        · subst y
          rw [if_neg (by omega), if_pos (by omega)]
          unfold upF
          rw [if_neg z]
        · by_cases y2 : i < q
          · rw [if_pos y2, if_pos (by omega)]
          · rw [if_neg y2, if_neg (by omega)]
      by_cases c1 : q % 4 = c
      · refine vs_ok 16 ?_
        rw [show ((gRes 114).drop 44).take 16 = [.iload 2, .aload 0, .getfield 9022, .arraylength, .if_icmp .ge 77, .aload 0, .getfield 9050, .iconst 3, .if_icmp .lt 77, .iload 2, .iconst 3, .iand, .iload 1, .if_icmp .ne 75, .iload 2, .iconst 3] from rfl]
        simp (disch := omega) only [vs_iconst, vs_if_icmp, vs_getfield, vs_arraylength, vs_aload0, vs_iload1, vs_iload2, vs_nil, gv_0, gv_1, gv_2, gv_3, pv_0, pv_1, va_rf_s, vs_iand, Nat.reduceDiv, Nat.reduceMod, Nat.reduceAdd, Nat.reduceMul, Int.reduceToNat, true_and, and_true, and_self, cP_eq, cP_ne, cP_lt, cP_ge, cP_gt, cP_le, eL_i, eL_l, eL_r, eL_n, Option.toList_none, Option.toList_some, List.nil_append, List.cons_append, kkI, llI, nnI, rrI, jjI, kkJ, llJ, nnJ, rrJ, iiJ, zIIs, zJJs, nEF, nET, and_false, false_and, jmin, jmax, catS_n, catS_i, catS_r, catS_l, Nat.reduceLeDiff, j1eq1, n21, jt0, jt1, Bool.false_eq_true, Classical.not_not, true_or, or_true, false_or, or_false, true_imp_iff, false_imp_iff, not_true_eq_false, not_false_eq_true, jif0, jif1, jifb, ltT, ltF, leT, leF, eqT, eqF, jlt, jle, jeq, jlt0, jle0, jeq0, jge0, jgt0, jinB, jnat, clt, cle, ceq, cgt, cge, lI_add, lI_sub, lI_mul, jadd, jsub, jmul, jneg, jtol, b010, b011, pv_2t, Int.toNat_natCast, Option.some.injEq, exists_eq_left', if_true, if_false, wcF go, g5, or_true, true_or, show Int32.ofNat 64 = iI 64 from rfl, jand3]
        refine PW.ss (r := []) rfl (le_b rfl) rfl rfl (le_b rfl) (le_b rfl) ?_
        refine t_isOfUnlike (n := 3) (by omega) (by omega) ⟨rfl, ⟨rfl, rfl⟩, ?_⟩
        by_cases c2 : ofU q 3 = true
        · have hdv : q / 2 ^ 2 = q / 4 := rfl
          have q4 : q / 4 < 16 := by omega
          have js : iI (q : Int) >>> (Int32.ofInt 2 &&& 31) = iI ((q / 4 : Nat) : Int) := jshr q 2 (by omega) (by omega)
          have e2q := e2 q (by omega)
          rw [if_neg (by omega)] at e2q
          refine vs_ok 14 ?_
          rw [show ((gRes 114).drop 61).take 14 = [.ifCond .eq 75, .aload 0, .getfield 9022, .iload 2, .dup2, .iaload, .aload 0, .getfield 9012, .iload 2, .iconst 2, .ishr, .iaload, .iadd, .iastore] from rfl]
          simp (disch := omega) only [vs_iadd, vs_iconst, vs_ifCond, vs_getfield, vs_iaload, vs_iastore, vs_dup2, vs_aload0, vs_iload2, vs_nil, gv_0, gv_1, gv_2, gv_3, pv_0, pv_1, va_rf_s, vs_ishr, Nat.reduceDiv, Nat.reduceMod, Nat.reduceAdd, Nat.reduceMul, Int.reduceToNat, true_and, and_true, and_self, cP_eq, cP_ne, cP_lt, cP_ge, cP_gt, cP_le, eL_i, eL_l, eL_r, eL_n, Option.toList_none, Option.toList_some, List.nil_append, List.cons_append, kkI, llI, nnI, rrI, jjI, kkJ, llJ, nnJ, rrJ, iiJ, zIIs, zJJs, nEF, nET, and_false, false_and, jmin, jmax, catS_n, catS_i, catS_r, catS_l, Nat.reduceLeDiff, j1eq1, n21, jt0, jt1, Bool.false_eq_true, Classical.not_not, true_or, or_true, false_or, or_false, true_imp_iff, false_imp_iff, not_true_eq_false, not_false_eq_true, jif0, jif1, jifb, ltT, ltF, leT, leF, eqT, eqF, jlt, jle, jeq, jlt0, jle0, jeq0, jge0, jgt0, jinB, jnat, clt, cle, ceq, cgt, cge, lI_add, lI_sub, lI_mul, jadd, jsub, jmul, jneg, jtol, b010, b011, pv_2t, Int.toNat_natCast, Option.some.injEq, exists_eq_left', if_true, if_false, wcF go, eq_true c2, e1, js, hb (q / 4) q4, e2q]
          refine vs_ok 2 ?_
          rw [show ((gRes 114).drop 75).take 2 = [.iinc 2 1, .goto 44] from rfl]
          simp (disch := omega) only [vs_goto, vs_iinc2n, vs_iinc2i, vs_iinc2r, vs_iinc2l, vs_nil, gv_0, gv_1, gv_2, gv_3, pv_0, pv_1, va_rf_s, Nat.reduceDiv, Nat.reduceMod, Nat.reduceAdd, Nat.reduceMul, Int.reduceToNat, true_and, and_true, and_self, cP_eq, cP_ne, cP_lt, cP_ge, cP_gt, cP_le, eL_i, eL_l, eL_r, eL_n, Option.toList_none, Option.toList_some, List.nil_append, List.cons_append, kkI, llI, nnI, rrI, jjI, kkJ, llJ, nnJ, rrJ, iiJ, zIIs, zJJs, nEF, nET, and_false, false_and, jmin, jmax, catS_n, catS_i, catS_r, catS_l, Nat.reduceLeDiff, j1eq1, n21, jt0, jt1, Bool.false_eq_true, Classical.not_not, true_or, or_true, false_or, or_false, true_imp_iff, false_imp_iff, not_true_eq_false, not_false_eq_true, jif0, jif1, jifb, ltT, ltF, leT, leF, eqT, eqF, jlt, jle, jeq, jlt0, jle0, jeq0, jge0, jgt0, jinB, jnat, clt, cle, ceq, cgt, cge, lI_add, lI_sub, lI_mul, jadd, jsub, jmul, jneg, jtol, b010, b011, pv_2t, Int.toNat_natCast, Option.some.injEq, exists_eq_left', if_true, if_false]
          refine ih (q + 1) _ (by omega) (f.I rfl) fun i hi => ?_
          rw [zI_s]
          by_cases y : i = q
          · subst y
            rw [if_pos ⟨rfl, rfl⟩, if_pos (by omega)]
            unfold upF
            rw [if_pos ⟨c1, c2⟩]
            rfl
          · rw [if_neg (fun z => y z.2), e2 i hi]
            by_cases y2 : i < q
            · rw [if_pos y2, if_pos (by omega)]
            · rw [if_neg y2, if_neg (by omega)]
        · refine vs_ok 1 ?_
          rw [show ((gRes 114).drop 61).take 1 = [.ifCond .eq 75] from rfl]
          simp (disch := omega) only [vs_ifCond, vs_nil, gv_0, gv_1, gv_2, gv_3, pv_0, pv_1, va_rf_s, Nat.reduceDiv, Nat.reduceMod, Nat.reduceAdd, Nat.reduceMul, Int.reduceToNat, true_and, and_true, and_self, cP_eq, cP_ne, cP_lt, cP_ge, cP_gt, cP_le, eL_i, eL_l, eL_r, eL_n, Option.toList_none, Option.toList_some, List.nil_append, List.cons_append, kkI, llI, nnI, rrI, jjI, kkJ, llJ, nnJ, rrJ, iiJ, zIIs, zJJs, nEF, nET, and_false, false_and, jmin, jmax, catS_n, catS_i, catS_r, catS_l, Nat.reduceLeDiff, j1eq1, n21, jt0, jt1, Bool.false_eq_true, Classical.not_not, true_or, or_true, false_or, or_false, true_imp_iff, false_imp_iff, not_true_eq_false, not_false_eq_true, jif0, jif1, jifb, ltT, ltF, leT, leF, eqT, eqF, jlt, jle, jeq, jlt0, jle0, jeq0, jge0, jgt0, jinB, jnat, clt, cle, ceq, cgt, cge, lI_add, lI_sub, lI_mul, jadd, jsub, jmul, jneg, jtol, b010, b011, pv_2t, Int.toNat_natCast, Option.some.injEq, exists_eq_left', if_true, if_false, eq_false c2]
          exact no fun z => c2 z.2
      · refine vs_ok 16 ?_
        rw [show ((gRes 114).drop 44).take 16 = [.iload 2, .aload 0, .getfield 9022, .arraylength, .if_icmp .ge 77, .aload 0, .getfield 9050, .iconst 3, .if_icmp .lt 77, .iload 2, .iconst 3, .iand, .iload 1, .if_icmp .ne 75, .iload 2, .iconst 3] from rfl]
        simp (disch := omega) only [vs_iconst, vs_if_icmp, vs_getfield, vs_arraylength, vs_aload0, vs_iload1, vs_iload2, vs_nil, gv_0, gv_1, gv_2, gv_3, pv_0, pv_1, va_rf_s, vs_iand, Nat.reduceDiv, Nat.reduceMod, Nat.reduceAdd, Nat.reduceMul, Int.reduceToNat, true_and, and_true, and_self, cP_eq, cP_ne, cP_lt, cP_ge, cP_gt, cP_le, eL_i, eL_l, eL_r, eL_n, Option.toList_none, Option.toList_some, List.nil_append, List.cons_append, kkI, llI, nnI, rrI, jjI, kkJ, llJ, nnJ, rrJ, iiJ, zIIs, zJJs, nEF, nET, and_false, false_and, jmin, jmax, catS_n, catS_i, catS_r, catS_l, Nat.reduceLeDiff, j1eq1, n21, jt0, jt1, Bool.false_eq_true, Classical.not_not, true_or, or_true, false_or, or_false, true_imp_iff, false_imp_iff, not_true_eq_false, not_false_eq_true, jif0, jif1, jifb, ltT, ltF, leT, leF, eqT, eqF, jlt, jle, jeq, jlt0, jle0, jeq0, jge0, jgt0, jinB, jnat, clt, cle, ceq, cgt, cge, lI_add, lI_sub, lI_mul, jadd, jsub, jmul, jneg, jtol, b010, b011, pv_2t, Int.toNat_natCast, Option.some.injEq, exists_eq_left', if_true, if_false, wcF go, g5, or_true, true_or, show Int32.ofNat 64 = iI 64 from rfl, jand3]
        exact no fun z => c1 z.1
  refine vs_ok 2 ?_
  rw [show ((gRes 114).drop 42).take 2 = [.iconst 0, .istore 2] from rfl]
  simp (disch := omega) only [vs_iconst, vs_istore2n, vs_istore2i, vs_istore2r, vs_istore2l, vs_nil, gv_0, gv_1, gv_2, gv_3, pv_0, pv_1, va_rf_s, Nat.reduceDiv, Nat.reduceMod, Nat.reduceAdd, Nat.reduceMul, Int.reduceToNat, true_and, and_true, and_self, cP_eq, cP_ne, cP_lt, cP_ge, cP_gt, cP_le, eL_i, eL_l, eL_r, eL_n, Option.toList_none, Option.toList_some, List.nil_append, List.cons_append, kkI, llI, nnI, rrI, jjI, kkJ, llJ, nnJ, rrJ, iiJ, zIIs, zJJs, nEF, nET, and_false, false_and, jmin, jmax, catS_n, catS_i, catS_r, catS_l, Nat.reduceLeDiff, j1eq1, n21, jt0, jt1, Bool.false_eq_true, Classical.not_not, true_or, or_true, false_or, or_false, true_imp_iff, false_imp_iff, not_true_eq_false, not_false_eq_true, jif0, jif1, jifb, ltT, ltF, leT, leF, eqT, eqF, jlt, jle, jeq, jlt0, jle0, jeq0, jge0, jgt0, jinB, jnat, clt, cle, ceq, cgt, cge, lI_add, lI_sub, lI_mul, jadd, jsub, jmul, jneg, jtol, b010, b011, pv_2t, Int.toNat_natCast, Option.some.injEq, exists_eq_left', if_true, if_false]
  exact lp 64 0 g0 (by omega) fi.rf fun i hi => by rw [if_neg (by omega)]; exact ha i hi
theorem t_takeL2 {d : Nat} {g0 : Hp} {w n c : Nat} {sa sb : Nat → Nat} {o : Option Value} {Q : Nat → Option Value → Hp → Prop} (ho : objA g0 w 9 wcL) (h5 : zI g0 w 5 = iI n) (hn : 2 ≤ n ∧ n ≤ 4) (hc : c < n) (hb : ∀ i, i < 4 → zI g0 (w + 1) i = iI (sb i)) (ha : ∀ i, i < 16 → zI g0 (w + 2) i = iI (sa i))
    (K : ∀ g o, fi (fun a => a = w + 2) g0 g → (∀ i, i < 16 → zI g (w + 2) i = iI (upF 2 c sa sb i)) → PW (d + 2) 114 108 [some (.ref w), some (.int (iI c)), o] [] g Q) : PW (d + 2) 114 77 [some (.ref w), some (.int (iI c)), o] [] g0 Q := by
  have lp : ∀ (k q : Nat) (g : Hp), k + q = 16 → fi (fun a => a = w + 2) g0 g → (∀ i, i < 16 → zI g (w + 2) i = iI (if i < q then upF 2 c sa sb i else sa i : Nat)) → PW (d + 2) 114 79 [some (.ref w), some (.int (iI c)), some (.int (iI q))] [] g Q := by
    intro k
    induction k with
    | zero =>
      intro q g hk f e2
      have e : q = 16 := by omega
      subst e
      have go := ho.fi f
      refine vs_ok 5 ?_
      rw [show ((gRes 114).drop 79).take 5 = [.iload 2, .aload 0, .getfield 9012, .arraylength, .if_icmp .ge 108] from rfl]
      simp (disch := omega) only [vs_if_icmp, vs_getfield, vs_arraylength, vs_aload0, vs_iload2, vs_nil, gv_0, gv_1, gv_2, gv_3, pv_0, pv_1, va_rf_s, Nat.reduceDiv, Nat.reduceMod, Nat.reduceAdd, Nat.reduceMul, Int.reduceToNat, true_and, and_true, and_self, cP_eq, cP_ne, cP_lt, cP_ge, cP_gt, cP_le, eL_i, eL_l, eL_r, eL_n, Option.toList_none, Option.toList_some, List.nil_append, List.cons_append, kkI, llI, nnI, rrI, jjI, kkJ, llJ, nnJ, rrJ, iiJ, zIIs, zJJs, nEF, nET, and_false, false_and, jmin, jmax, catS_n, catS_i, catS_r, catS_l, Nat.reduceLeDiff, j1eq1, n21, jt0, jt1, Bool.false_eq_true, Classical.not_not, true_or, or_true, false_or, or_false, true_imp_iff, false_imp_iff, not_true_eq_false, not_false_eq_true, jif0, jif1, jifb, ltT, ltF, leT, leF, eqT, eqF, jlt, jle, jeq, jlt0, jle0, jeq0, jge0, jgt0, jinB, jnat, clt, cle, ceq, cgt, cge, lI_add, lI_sub, lI_mul, jadd, jsub, jmul, jneg, jtol, b010, b011, pv_2t, Int.toNat_natCast, Option.some.injEq, exists_eq_left', if_true, if_false, wcF go, or_true, true_or, show Int32.ofNat 16 = iI 16 from rfl]
      exact K g _ f fun i hi => by rw [e2 i hi, if_pos hi]
    | succ k ih =>
      intro q g hk f e2
      have go := ho.fi f
      have g5 : zI g w 5 = iI n := by rw [f.1.2.2.2.2.2.1 w (by omega)]; exact h5
      have e1 : zI g (w + 1) = zI g0 (w + 1) := f.1.2.2.2.2.2.1 _ (by omega)
      have no : ¬ (q % 4 = c ∧ ofU q 2 = true) → PW (d + 2) 114 106 [some (.ref w), some (.int (iI c)), some (.int (iI q))] [] g Q := fun z => by
        refine vs_ok 2 ?_
        rw [show ((gRes 114).drop 106).take 2 = [.iinc 2 1, .goto 79] from rfl]
        simp (disch := omega) only [vs_goto, vs_iinc2n, vs_iinc2i, vs_iinc2r, vs_iinc2l, vs_nil, gv_0, gv_1, gv_2, gv_3, pv_0, pv_1, va_rf_s, Nat.reduceDiv, Nat.reduceMod, Nat.reduceAdd, Nat.reduceMul, Int.reduceToNat, true_and, and_true, and_self, cP_eq, cP_ne, cP_lt, cP_ge, cP_gt, cP_le, eL_i, eL_l, eL_r, eL_n, Option.toList_none, Option.toList_some, List.nil_append, List.cons_append, kkI, llI, nnI, rrI, jjI, kkJ, llJ, nnJ, rrJ, iiJ, zIIs, zJJs, nEF, nET, and_false, false_and, jmin, jmax, catS_n, catS_i, catS_r, catS_l, Nat.reduceLeDiff, j1eq1, n21, jt0, jt1, Bool.false_eq_true, Classical.not_not, true_or, or_true, false_or, or_false, true_imp_iff, false_imp_iff, not_true_eq_false, not_false_eq_true, jif0, jif1, jifb, ltT, ltF, leT, leF, eqT, eqF, jlt, jle, jeq, jlt0, jle0, jeq0, jge0, jgt0, jinB, jnat, clt, cle, ceq, cgt, cge, lI_add, lI_sub, lI_mul, jadd, jsub, jmul, jneg, jtol, b010, b011, pv_2t, Int.toNat_natCast, Option.some.injEq, exists_eq_left', if_true, if_false]
        refine ih (q + 1) g (by omega) f fun i hi => ?_
        rw [e2 i hi]
        by_cases y : i = q
        · subst y
          rw [if_neg (by omega), if_pos (by omega)]
          unfold upF
          rw [if_neg z]
        · by_cases y2 : i < q
          · rw [if_pos y2, if_pos (by omega)]
          · rw [if_neg y2, if_neg (by omega)]
      by_cases c1 : q % 4 = c
      · refine vs_ok 12 ?_
        rw [show ((gRes 114).drop 79).take 12 = [.iload 2, .aload 0, .getfield 9012, .arraylength, .if_icmp .ge 108, .iload 2, .iconst 3, .iand, .iload 1, .if_icmp .ne 106, .iload 2, .iconst 2] from rfl]
        simp (disch := omega) only [vs_iconst, vs_if_icmp, vs_getfield, vs_arraylength, vs_aload0, vs_iload1, vs_iload2, vs_nil, gv_0, gv_1, gv_2, gv_3, pv_0, pv_1, va_rf_s, vs_iand, Nat.reduceDiv, Nat.reduceMod, Nat.reduceAdd, Nat.reduceMul, Int.reduceToNat, true_and, and_true, and_self, cP_eq, cP_ne, cP_lt, cP_ge, cP_gt, cP_le, eL_i, eL_l, eL_r, eL_n, Option.toList_none, Option.toList_some, List.nil_append, List.cons_append, kkI, llI, nnI, rrI, jjI, kkJ, llJ, nnJ, rrJ, iiJ, zIIs, zJJs, nEF, nET, and_false, false_and, jmin, jmax, catS_n, catS_i, catS_r, catS_l, Nat.reduceLeDiff, j1eq1, n21, jt0, jt1, Bool.false_eq_true, Classical.not_not, true_or, or_true, false_or, or_false, true_imp_iff, false_imp_iff, not_true_eq_false, not_false_eq_true, jif0, jif1, jifb, ltT, ltF, leT, leF, eqT, eqF, jlt, jle, jeq, jlt0, jle0, jeq0, jge0, jgt0, jinB, jnat, clt, cle, ceq, cgt, cge, lI_add, lI_sub, lI_mul, jadd, jsub, jmul, jneg, jtol, b010, b011, pv_2t, Int.toNat_natCast, Option.some.injEq, exists_eq_left', if_true, if_false, wcF go, g5, or_true, true_or, show Int32.ofNat 16 = iI 16 from rfl, jand3]
        refine PW.ss (r := []) rfl (le_b rfl) rfl rfl (le_b rfl) (le_b rfl) ?_
        refine t_isOfUnlike (n := 2) (by omega) (by omega) ⟨rfl, ⟨rfl, rfl⟩, ?_⟩
        by_cases c2 : ofU q 2 = true
        · have hdv : q / 2 ^ 2 = q / 4 := rfl
          have q4 : q / 4 < 4 := by omega
          have js : iI (q : Int) >>> (Int32.ofInt 2 &&& 31) = iI ((q / 4 : Nat) : Int) := jshr q 2 (by omega) (by omega)
          have e2q := e2 q (by omega)
          rw [if_neg (by omega)] at e2q
          refine vs_ok 14 ?_
          rw [show ((gRes 114).drop 92).take 14 = [.ifCond .eq 106, .aload 0, .getfield 9012, .iload 2, .dup2, .iaload, .aload 0, .getfield 9002, .iload 2, .iconst 2, .ishr, .iaload, .iadd, .iastore] from rfl]
          simp (disch := omega) only [vs_iadd, vs_iconst, vs_ifCond, vs_getfield, vs_iaload, vs_iastore, vs_dup2, vs_aload0, vs_iload2, vs_nil, gv_0, gv_1, gv_2, gv_3, pv_0, pv_1, va_rf_s, vs_ishr, Nat.reduceDiv, Nat.reduceMod, Nat.reduceAdd, Nat.reduceMul, Int.reduceToNat, true_and, and_true, and_self, cP_eq, cP_ne, cP_lt, cP_ge, cP_gt, cP_le, eL_i, eL_l, eL_r, eL_n, Option.toList_none, Option.toList_some, List.nil_append, List.cons_append, kkI, llI, nnI, rrI, jjI, kkJ, llJ, nnJ, rrJ, iiJ, zIIs, zJJs, nEF, nET, and_false, false_and, jmin, jmax, catS_n, catS_i, catS_r, catS_l, Nat.reduceLeDiff, j1eq1, n21, jt0, jt1, Bool.false_eq_true, Classical.not_not, true_or, or_true, false_or, or_false, true_imp_iff, false_imp_iff, not_true_eq_false, not_false_eq_true, jif0, jif1, jifb, ltT, ltF, leT, leF, eqT, eqF, jlt, jle, jeq, jlt0, jle0, jeq0, jge0, jgt0, jinB, jnat, clt, cle, ceq, cgt, cge, lI_add, lI_sub, lI_mul, jadd, jsub, jmul, jneg, jtol, b010, b011, pv_2t, Int.toNat_natCast, Option.some.injEq, exists_eq_left', if_true, if_false, wcF go, eq_true c2, e1, js, hb (q / 4) q4, e2q]
          refine vs_ok 2 ?_
          rw [show ((gRes 114).drop 106).take 2 = [.iinc 2 1, .goto 79] from rfl]
          simp (disch := omega) only [vs_goto, vs_iinc2n, vs_iinc2i, vs_iinc2r, vs_iinc2l, vs_nil, gv_0, gv_1, gv_2, gv_3, pv_0, pv_1, va_rf_s, Nat.reduceDiv, Nat.reduceMod, Nat.reduceAdd, Nat.reduceMul, Int.reduceToNat, true_and, and_true, and_self, cP_eq, cP_ne, cP_lt, cP_ge, cP_gt, cP_le, eL_i, eL_l, eL_r, eL_n, Option.toList_none, Option.toList_some, List.nil_append, List.cons_append, kkI, llI, nnI, rrI, jjI, kkJ, llJ, nnJ, rrJ, iiJ, zIIs, zJJs, nEF, nET, and_false, false_and, jmin, jmax, catS_n, catS_i, catS_r, catS_l, Nat.reduceLeDiff, j1eq1, n21, jt0, jt1, Bool.false_eq_true, Classical.not_not, true_or, or_true, false_or, or_false, true_imp_iff, false_imp_iff, not_true_eq_false, not_false_eq_true, jif0, jif1, jifb, ltT, ltF, leT, leF, eqT, eqF, jlt, jle, jeq, jlt0, jle0, jeq0, jge0, jgt0, jinB, jnat, clt, cle, ceq, cgt, cge, lI_add, lI_sub, lI_mul, jadd, jsub, jmul, jneg, jtol, b010, b011, pv_2t, Int.toNat_natCast, Option.some.injEq, exists_eq_left', if_true, if_false]
          refine ih (q + 1) _ (by omega) (f.I rfl) fun i hi => ?_
          rw [zI_s]
          by_cases y : i = q
          · subst y
            rw [if_pos ⟨rfl, rfl⟩, if_pos (by omega)]
            unfold upF
            rw [if_pos ⟨c1, c2⟩]
            rfl
          · rw [if_neg (fun z => y z.2), e2 i hi]
            by_cases y2 : i < q
            · rw [if_pos y2, if_pos (by omega)]
            · rw [if_neg y2, if_neg (by omega)]
        · refine vs_ok 1 ?_
          rw [show ((gRes 114).drop 92).take 1 = [.ifCond .eq 106] from rfl]
          simp (disch := omega) only [vs_ifCond, vs_nil, gv_0, gv_1, gv_2, gv_3, pv_0, pv_1, va_rf_s, Nat.reduceDiv, Nat.reduceMod, Nat.reduceAdd, Nat.reduceMul, Int.reduceToNat, true_and, and_true, and_self, cP_eq, cP_ne, cP_lt, cP_ge, cP_gt, cP_le, eL_i, eL_l, eL_r, eL_n, Option.toList_none, Option.toList_some, List.nil_append, List.cons_append, kkI, llI, nnI, rrI, jjI, kkJ, llJ, nnJ, rrJ, iiJ, zIIs, zJJs, nEF, nET, and_false, false_and, jmin, jmax, catS_n, catS_i, catS_r, catS_l, Nat.reduceLeDiff, j1eq1, n21, jt0, jt1, Bool.false_eq_true, Classical.not_not, true_or, or_true, false_or, or_false, true_imp_iff, false_imp_iff, not_true_eq_false, not_false_eq_true, jif0, jif1, jifb, ltT, ltF, leT, leF, eqT, eqF, jlt, jle, jeq, jlt0, jle0, jeq0, jge0, jgt0, jinB, jnat, clt, cle, ceq, cgt, cge, lI_add, lI_sub, lI_mul, jadd, jsub, jmul, jneg, jtol, b010, b011, pv_2t, Int.toNat_natCast, Option.some.injEq, exists_eq_left', if_true, if_false, eq_false c2]
          exact no fun z => c2 z.2
      · refine vs_ok 12 ?_
        rw [show ((gRes 114).drop 79).take 12 = [.iload 2, .aload 0, .getfield 9012, .arraylength, .if_icmp .ge 108, .iload 2, .iconst 3, .iand, .iload 1, .if_icmp .ne 106, .iload 2, .iconst 2] from rfl]
        simp (disch := omega) only [vs_iconst, vs_if_icmp, vs_getfield, vs_arraylength, vs_aload0, vs_iload1, vs_iload2, vs_nil, gv_0, gv_1, gv_2, gv_3, pv_0, pv_1, va_rf_s, vs_iand, Nat.reduceDiv, Nat.reduceMod, Nat.reduceAdd, Nat.reduceMul, Int.reduceToNat, true_and, and_true, and_self, cP_eq, cP_ne, cP_lt, cP_ge, cP_gt, cP_le, eL_i, eL_l, eL_r, eL_n, Option.toList_none, Option.toList_some, List.nil_append, List.cons_append, kkI, llI, nnI, rrI, jjI, kkJ, llJ, nnJ, rrJ, iiJ, zIIs, zJJs, nEF, nET, and_false, false_and, jmin, jmax, catS_n, catS_i, catS_r, catS_l, Nat.reduceLeDiff, j1eq1, n21, jt0, jt1, Bool.false_eq_true, Classical.not_not, true_or, or_true, false_or, or_false, true_imp_iff, false_imp_iff, not_true_eq_false, not_false_eq_true, jif0, jif1, jifb, ltT, ltF, leT, leF, eqT, eqF, jlt, jle, jeq, jlt0, jle0, jeq0, jge0, jgt0, jinB, jnat, clt, cle, ceq, cgt, cge, lI_add, lI_sub, lI_mul, jadd, jsub, jmul, jneg, jtol, b010, b011, pv_2t, Int.toNat_natCast, Option.some.injEq, exists_eq_left', if_true, if_false, wcF go, g5, or_true, true_or, show Int32.ofNat 16 = iI 16 from rfl, jand3]
        exact no fun z => c1 z.1
  refine vs_ok 2 ?_
  rw [show ((gRes 114).drop 77).take 2 = [.iconst 0, .istore 2] from rfl]
  simp (disch := omega) only [vs_iconst, vs_istore2n, vs_istore2i, vs_istore2r, vs_istore2l, vs_nil, gv_0, gv_1, gv_2, gv_3, pv_0, pv_1, va_rf_s, Nat.reduceDiv, Nat.reduceMod, Nat.reduceAdd, Nat.reduceMul, Int.reduceToNat, true_and, and_true, and_self, cP_eq, cP_ne, cP_lt, cP_ge, cP_gt, cP_le, eL_i, eL_l, eL_r, eL_n, Option.toList_none, Option.toList_some, List.nil_append, List.cons_append, kkI, llI, nnI, rrI, jjI, kkJ, llJ, nnJ, rrJ, iiJ, zIIs, zJJs, nEF, nET, and_false, false_and, jmin, jmax, catS_n, catS_i, catS_r, catS_l, Nat.reduceLeDiff, j1eq1, n21, jt0, jt1, Bool.false_eq_true, Classical.not_not, true_or, or_true, false_or, or_false, true_imp_iff, false_imp_iff, not_true_eq_false, not_false_eq_true, jif0, jif1, jifb, ltT, ltF, leT, leF, eqT, eqF, jlt, jle, jeq, jlt0, jle0, jeq0, jge0, jgt0, jinB, jnat, clt, cle, ceq, cgt, cge, lI_add, lI_sub, lI_mul, jadd, jsub, jmul, jneg, jtol, b010, b011, pv_2t, Int.toNat_natCast, Option.some.injEq, exists_eq_left', if_true, if_false]
  exact lp 16 0 g0 (by omega) fi.rf fun i hi => by rw [if_neg (by omega)]; exact ha i hi
theorem t_take {d : Nat} {h : Hp} {w n c : Nat} {s : wcS} {Q : Nat → Option Value → Hp → Prop} (hw : wcC h w n s) (hn : 2 ≤ n ∧ n ≤ 4) (hc : c < n) (hq : ∀ h', fi (fun q => w + 1 ≤ q ∧ q ≤ w + 4) h h' → wcC h' w n (wcT n c s) → Q 0 none h') : PR (d + 2) m_WordCount_take [.ref w, .int (iI c)] h Q := by
  obtain ⟨s1, s2, s3, s4⟩ := s
  obtain ⟨ho, h5, a1, a2, a3, a4⟩ := hw
  dsimp only at a1 a2 a3 a4
  show PW (d + 2) 114 0 [some (.ref w), some (.int (iI c)), none] [] h Q
  -- behind the loops over threes and fours
  have p2 : ∀ (g : Hp) (o : Option Value) (t3 t4 : Nat → Nat), fi (fun q => q = w + 3 ∨ q = w + 4) h g → (∀ i, i < 64 → zI g (w + 3) i = iI (t3 i)) → (∀ i, i < 256 → zI g (w + 4) i = iI (t4 i)) → t3 = (if 3 ≤ n then upF 3 c s3 s2 else s3) → t4 = (if 4 ≤ n then upF 4 c s4 s3 else s4) → PW (d + 2) 114 77 [some (.ref w), some (.int (iI c)), o] [] g Q := fun g o t3 t4 f b3 b4 ht3 ht4 => by
    have r := f.1.2.2.2.2.2.1
    refine t_takeL2 (sa := s2) (sb := s1) (ho.fi f) (by rw [r _ (by omega)]; exact h5) hn hc (by rw [r _ (by omega)]; exact a1) (by rw [r _ (by omega)]; exact a2) fun g2 o f2 b2 => ?_
    have go := (ho.fi f).fi f2
    have r2 := f2.1.2.2.2.2.2.1
    have q1 : zI g2 (w + 1) = zI h (w + 1) := by rw [r2 _ (by omega), r _ (by omega)]
    refine vs_ok 9 ?_
    rw [show ((gRes 114).drop 108).take 9 = [.aload 0, .getfield 9002, .iload 1, .dup2, .iaload, .iconst 1, .iadd, .iastore, .return_] from rfl]
    simp (disch := omega) only [vs_iadd, vs_iconst, vs_getfield, vs_iaload, vs_iastore, vs_return_, vs_dup2, vs_aload0, vs_iload1, vs_nil, gv_0, gv_1, gv_2, gv_3, pv_0, pv_1, va_rf_s, Nat.reduceDiv, Nat.reduceMod, Nat.reduceAdd, Nat.reduceMul, Int.reduceToNat, true_and, and_true, and_self, cP_eq, cP_ne, cP_lt, cP_ge, cP_gt, cP_le, eL_i, eL_l, eL_r, eL_n, Option.toList_none, Option.toList_some, List.nil_append, List.cons_append, kkI, llI, nnI, rrI, jjI, kkJ, llJ, nnJ, rrJ, iiJ, zIIs, zJJs, nEF, nET, and_false, false_and, jmin, jmax, catS_n, catS_i, catS_r, catS_l, Nat.reduceLeDiff, j1eq1, n21, jt0, jt1, Bool.false_eq_true, Classical.not_not, true_or, or_true, false_or, or_false, true_imp_iff, false_imp_iff, not_true_eq_false, not_false_eq_true, jif0, jif1, jifb, ltT, ltF, leT, leF, eqT, eqF, jlt, jle, jeq, jlt0, jle0, jeq0, jge0, jgt0, jinB, jnat, clt, cle, ceq, cgt, cge, lI_add, lI_sub, lI_mul, jadd, jsub, jmul, jneg, jtol, b010, b011, pv_2t, Int.toNat_natCast, Option.some.injEq, exists_eq_left', if_true, if_false, wcF go, q1, a1 c (by omega), show gRc 114 = 0 from rfl]
    refine hq _ (((f.wk fun q z => by omega).tr (f2.wk fun q z => by omega)).I (by omega)) ⟨go.fi (fi_I (S := fun q => q = w + 1) rfl), ?_, fun i hi => ?_, fun i hi => ?_, fun i hi => ?_, fun i hi => ?_⟩
    · rw [zI_s, if_neg (by omega), r2 _ (by omega), r _ (by omega)]
      exact h5
    · rw [zI_s]
      show _ = iI ((if i = c then s1 i + 1 else s1 i : Nat))
      by_cases z : i = c
      · rw [if_pos ⟨rfl, z⟩, if_pos z, z]
        rfl
      · rw [if_neg (fun y => z y.2), if_neg z, q1]
        exact a1 i hi
    · rw [zI_s, if_neg (by omega)]
      exact b2 i hi
    · rw [zI_s, if_neg (by omega), r2 _ (by omega), b3 i hi, ht3]
      rfl
    · rw [zI_s, if_neg (by omega), r2 _ (by omega), b4 i hi, ht4]
      rfl
  have p3 : ∀ (g : Hp) (o : Option Value) (t4 : Nat → Nat), fi (fun q => q = w + 4) h g → (∀ i, i < 256 → zI g (w + 4) i = iI (t4 i)) → t4 = (if 4 ≤ n then upF 4 c s4 s3 else s4) → PW (d + 2) 114 42 [some (.ref w), some (.int (iI c)), o] [] g Q := fun g o t4 f b4 ht4 => by
    have r := f.1.2.2.2.2.2.1
    have go := ho.fi f
    have g5 : zI g w 5 = iI n := by rw [r _ (by omega)]; exact h5
    have g3 : ∀ i, i < 64 → zI g (w + 3) i = iI (s3 i) := by rw [r _ (by omega)]; exact a3
    by_cases c3 : 3 ≤ n
    · refine t_takeL3 (sa := s3) (sb := s2) go g5 ⟨c3, hn.2⟩ hc (by rw [r _ (by omega)]; exact a2) g3 fun g2 o f2 b2 => ?_
      have r2 := f2.1.2.2.2.2.2.1
      exact p2 g2 o _ t4 ((f.wk fun q z => Or.inr z).tr (f2.wk fun q z => Or.inl z)) b2 (fun i hi => by rw [r2 _ (by omega)]; exact b4 i hi) (if_pos c3).symm ht4
    · refine vs_ok 2 ?_
      rw [show ((gRes 114).drop 42).take 2 = [.iconst 0, .istore 2] from rfl]
      simp (disch := omega) only [vs_iconst, vs_istore2n, vs_istore2i, vs_istore2r, vs_istore2l, vs_nil, gv_0, gv_1, gv_2, gv_3, pv_0, pv_1, va_rf_s, Nat.reduceDiv, Nat.reduceMod, Nat.reduceAdd, Nat.reduceMul, Int.reduceToNat, true_and, and_true, and_self, cP_eq, cP_ne, cP_lt, cP_ge, cP_gt, cP_le, eL_i, eL_l, eL_r, eL_n, Option.toList_none, Option.toList_some, List.nil_append, List.cons_append, kkI, llI, nnI, rrI, jjI, kkJ, llJ, nnJ, rrJ, iiJ, zIIs, zJJs, nEF, nET, and_false, false_and, jmin, jmax, catS_n, catS_i, catS_r, catS_l, Nat.reduceLeDiff, j1eq1, n21, jt0, jt1, Bool.false_eq_true, Classical.not_not, true_or, or_true, false_or, or_false, true_imp_iff, false_imp_iff, not_true_eq_false, not_false_eq_true, jif0, jif1, jifb, ltT, ltF, leT, leF, eqT, eqF, jlt, jle, jeq, jlt0, jle0, jeq0, jge0, jgt0, jinB, jnat, clt, cle, ceq, cgt, cge, lI_add, lI_sub, lI_mul, jadd, jsub, jmul, jneg, jtol, b010, b011, pv_2t, Int.toNat_natCast, Option.some.injEq, exists_eq_left', if_true, if_false]
      refine vs_ok 16 ?_
      rw [show ((gRes 114).drop 44).take 16 = [.iload 2, .aload 0, .getfield 9022, .arraylength, .if_icmp .ge 77, .aload 0, .getfield 9050, .iconst 3, .if_icmp .lt 77, .iload 2, .iconst 3, .iand, .iload 1, .if_icmp .ne 75, .iload 2, .iconst 3] from rfl]
      simp (disch := omega) only [vs_iconst, vs_if_icmp, vs_getfield, vs_arraylength, vs_aload0, vs_iload1, vs_iload2, vs_nil, gv_0, gv_1, gv_2, gv_3, pv_0, pv_1, va_rf_s, vs_iand, Nat.reduceDiv, Nat.reduceMod, Nat.reduceAdd, Nat.reduceMul, Int.reduceToNat, true_and, and_true, and_self, cP_eq, cP_ne, cP_lt, cP_ge, cP_gt, cP_le, eL_i, eL_l, eL_r, eL_n, Option.toList_none, Option.toList_some, List.nil_append, List.cons_append, kkI, llI, nnI, rrI, jjI, kkJ, llJ, nnJ, rrJ, iiJ, zIIs, zJJs, nEF, nET, and_false, false_and, jmin, jmax, catS_n, catS_i, catS_r, catS_l, Nat.reduceLeDiff, j1eq1, n21, jt0, jt1, Bool.false_eq_true, Classical.not_not, true_or, or_true, false_or, or_false, true_imp_iff, false_imp_iff, not_true_eq_false, not_false_eq_true, jif0, jif1, jifb, ltT, ltF, leT, leF, eqT, eqF, jlt, jle, jeq, jlt0, jle0, jeq0, jge0, jgt0, jinB, jnat, clt, cle, ceq, cgt, cge, lI_add, lI_sub, lI_mul, jadd, jsub, jmul, jneg, jtol, b010, b011, pv_2t, Int.toNat_natCast, Option.some.injEq, exists_eq_left', if_true, if_false, wcF go, g5, or_true, true_or, show Int32.ofNat 64 = iI 64 from rfl]
      exact p2 g _ s3 t4 (f.wk fun q z => Or.inr z) g3 b4 (if_neg c3).symm ht4
  refine vs_ok 7 ?_
  rw [show ((gRes 114).drop 0).take 7 = [.iload 1, .ifCond .lt 6, .iload 1, .aload 0, .getfield 9050, .if_icmp .lt 7, .return_] from rfl]
  simp (disch := omega) only [vs_if_icmp, vs_ifCond, vs_getfield, vs_return_, vs_aload0, vs_iload1, vs_nil, gv_0, gv_1, gv_2, gv_3, pv_0, pv_1, va_rf_s, Nat.reduceDiv, Nat.reduceMod, Nat.reduceAdd, Nat.reduceMul, Int.reduceToNat, true_and, and_true, and_self, cP_eq, cP_ne, cP_lt, cP_ge, cP_gt, cP_le, eL_i, eL_l, eL_r, eL_n, Option.toList_none, Option.toList_some, List.nil_append, List.cons_append, kkI, llI, nnI, rrI, jjI, kkJ, llJ, nnJ, rrJ, iiJ, zIIs, zJJs, nEF, nET, and_false, false_and, jmin, jmax, catS_n, catS_i, catS_r, catS_l, Nat.reduceLeDiff, j1eq1, n21, jt0, jt1, Bool.false_eq_true, Classical.not_not, true_or, or_true, false_or, or_false, true_imp_iff, false_imp_iff, not_true_eq_false, not_false_eq_true, jif0, jif1, jifb, ltT, ltF, leT, leF, eqT, eqF, jlt, jle, jeq, jlt0, jle0, jeq0, jge0, jgt0, jinB, jnat, clt, cle, ceq, cgt, cge, lI_add, lI_sub, lI_mul, jadd, jsub, jmul, jneg, jtol, b010, b011, pv_2t, Int.toNat_natCast, Option.some.injEq, exists_eq_left', if_true, if_false, wcF ho, h5, show gRc 114 = 0 from rfl]
  by_cases c4 : 4 ≤ n
  · exact t_takeL4 (sa := s4) (sb := s3) ho h5 ⟨c4, hn.2⟩ hc a3 a4 fun g2 o f2 b2 => p3 g2 o _ f2 b2 (if_pos c4).symm
  · refine vs_ok 2 ?_
    rw [show ((gRes 114).drop 7).take 2 = [.iconst 0, .istore 2] from rfl]
    simp (disch := omega) only [vs_iconst, vs_istore2n, vs_istore2i, vs_istore2r, vs_istore2l, vs_nil, gv_0, gv_1, gv_2, gv_3, pv_0, pv_1, va_rf_s, Nat.reduceDiv, Nat.reduceMod, Nat.reduceAdd, Nat.reduceMul, Int.reduceToNat, true_and, and_true, and_self, cP_eq, cP_ne, cP_lt, cP_ge, cP_gt, cP_le, eL_i, eL_l, eL_r, eL_n, Option.toList_none, Option.toList_some, List.nil_append, List.cons_append, kkI, llI, nnI, rrI, jjI, kkJ, llJ, nnJ, rrJ, iiJ, zIIs, zJJs, nEF, nET, and_false, false_and, jmin, jmax, catS_n, catS_i, catS_r, catS_l, Nat.reduceLeDiff, j1eq1, n21, jt0, jt1, Bool.false_eq_true, Classical.not_not, true_or, or_true, false_or, or_false, true_imp_iff, false_imp_iff, not_true_eq_false, not_false_eq_true, jif0, jif1, jifb, ltT, ltF, leT, leF, eqT, eqF, jlt, jle, jeq, jlt0, jle0, jeq0, jge0, jgt0, jinB, jnat, clt, cle, ceq, cgt, cge, lI_add, lI_sub, lI_mul, jadd, jsub, jmul, jneg, jtol, b010, b011, pv_2t, Int.toNat_natCast, Option.some.injEq, exists_eq_left', if_true, if_false]
    refine vs_ok 16 ?_
    rw [show ((gRes 114).drop 9).take 16 = [.iload 2, .aload 0, .getfield 9032, .arraylength, .if_icmp .ge 42, .aload 0, .getfield 9050, .iconst 4, .if_icmp .lt 42, .iload 2, .iconst 3, .iand, .iload 1, .if_icmp .ne 40, .iload 2, .iconst 4] from rfl]
    simp (disch := omega) only [vs_iconst, vs_if_icmp, vs_getfield, vs_arraylength, vs_aload0, vs_iload1, vs_iload2, vs_nil, gv_0, gv_1, gv_2, gv_3, pv_0, pv_1, va_rf_s, vs_iand, Nat.reduceDiv, Nat.reduceMod, Nat.reduceAdd, Nat.reduceMul, Int.reduceToNat, true_and, and_true, and_self, cP_eq, cP_ne, cP_lt, cP_ge, cP_gt, cP_le, eL_i, eL_l, eL_r, eL_n, Option.toList_none, Option.toList_some, List.nil_append, List.cons_append, kkI, llI, nnI, rrI, jjI, kkJ, llJ, nnJ, rrJ, iiJ, zIIs, zJJs, nEF, nET, and_false, false_and, jmin, jmax, catS_n, catS_i, catS_r, catS_l, Nat.reduceLeDiff, j1eq1, n21, jt0, jt1, Bool.false_eq_true, Classical.not_not, true_or, or_true, false_or, or_false, true_imp_iff, false_imp_iff, not_true_eq_false, not_false_eq_true, jif0, jif1, jifb, ltT, ltF, leT, leF, eqT, eqF, jlt, jle, jeq, jlt0, jle0, jeq0, jge0, jgt0, jinB, jnat, clt, cle, ceq, cgt, cge, lI_add, lI_sub, lI_mul, jadd, jsub, jmul, jneg, jtol, b010, b011, pv_2t, Int.toNat_natCast, Option.some.injEq, exists_eq_left', if_true, if_false, wcF ho, h5, or_true, true_or, show Int32.ofNat 256 = iI 256 from rfl]
    exact p3 h _ s4 fi.rf a4 (if_neg c4).symm
