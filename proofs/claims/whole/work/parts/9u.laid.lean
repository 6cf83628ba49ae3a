/-! the Model: isLaid -/
/-- how often a face of a is greater than one of o, among the first k letters -/
def btW (w : Nat → Nat) (a o : Nat) : Nat → Nat
  | 0 => 0
  | k + 1 => btW w a o k + if w k = a then cnW w o k else 0
theorem btW_le (w : Nat → Nat) (a o : Nat) : ∀ k, btW w a o k ≤ k * k
  | 0 => Nat.le_refl 0
  | k + 1 => by
    have h1 := btW_le w a o k
    have h2 := cnW_le w o k
    show btW w a o k + (if w k = a then cnW w o k else 0) ≤ (k + 1) * (k + 1)
    rw [Nat.add_mul, Nat.mul_add]
    split <;> omega
/-- all pairs told beat one another as told -/
abbrev laW (w : Nat → Nat) (L f np : Nat) (pa pb : Nat → Nat) : Prop := ∀ p, p < np → f * f < 2 * btW w (pa p) (pb p) L
theorem t_M_isLaid {d : Nat} {h : Hp} {m L n f np : Nat} {w pa pb : Nat → Nat} {Q : Nat → Option Value → Hp → Prop} (hm : mO h m) (t : ltS h m L w) (hn : n ≤ 4) (hf : f ≤ 6) (hw : ∀ i, i < L → w i < n) (h3 : zI h m 3 = iI ((2 * np : Nat) : Int)) (hnp : np ≤ 12) (hpp : ∀ p, p < np → (pa p < n ∧ pb p < n) ∧ zI h (m + 32) (2 * p) = iI (pa p : Nat) ∧ zI h (m + 32) (2 * p + 1) = iI (pb p : Nat))
    (hq1 : laW w L f np pa pb → ∀ g, fi (fun q => q = m + 30 ∨ q = m + 31) h g → Q 0 (some (.int (iI 1))) g) (hq0 : ¬ laW w L f np pa pb → ∀ g, fi (fun q => q = m + 30 ∨ q = m + 31) h g → Q 0 (some (.int (iI 0))) g) : PR d m_M_isLaid [.ref m, .int (iI n), .int (iI f)] h Q := by
  have h52 := t.1
  have l24 := t.2.1
  have ff : f * f ≤ 6 * 6 := Nat.mul_le_mul hf hf
  have mu : (f : Int) * (f : Int) = ((f * f : Nat) : Int) := (Int.natCast_mul _ _).symm
  have LL : L * L ≤ 24 * 24 := Nat.mul_le_mul l24 l24
  show PW d 263 0 [some (.ref m), some (.int (iI n)), some (.int (iI f)), none, none] [] h Q
  have dec : ∀ g, fi (fun q => q = m + 30 ∨ q = m + 31) h g → (zK g m = 12 ∧ m < zN g) ∧ (zR g m 48 = some (m + 30) ∧ zK g (m + 30) = 14 ∧ m + 30 < zN g ∧ zL g (m + 30) = 4) ∧ (zR g m 49 = some (m + 31) ∧ zK g (m + 31) = 14 ∧ m + 31 < zN g ∧ zL g (m + 31) = 16) ∧ (zR g m 45 = some (m + 27) ∧ zK g (m + 27) = 14 ∧ m + 27 < zN g ∧ zL g (m + 27) = 24) ∧ (zR g m 50 = some (m + 32) ∧ zK g (m + 32) = 14 ∧ m + 32 < zN g ∧ zL g (m + 32) = 24) ∧ zI g m = zI h m ∧ zI g (m + 27) = zI h (m + 27) ∧ zI g (m + 32) = zI h (m + 32) := fun g f => ⟨(hm.fi f).k, (hm.fi f).below, (hm.fi f).beatsOf, (hm.fi f).letters, (hm.fi f).wants, f.1.2.2.2.2.2.1 _ (by omega), f.1.2.2.2.2.2.1 _ (by omega), f.1.2.2.2.2.2.1 _ (by omega)⟩
  have e4 : ∀ a b : Nat, (4 : Int) * (a : Int) + (b : Int) = ((4 * a + b : Nat) : Int) := fun a b => by omega
  -- the pairs
  have l70 : ∀ (g : Hp), fi (fun q => q = m + 30 ∨ q = m + 31) h g → (∀ a o, a < n → o < n → zI g (m + 31) (4 * a + o) = iI (btW w a o L : Nat)) → ∀ (j p : Nat) (o4 : Option Value), j + p = np → (∀ q, q < p → f * f < 2 * btW w (pa q) (pb q) L) → PW d 263 70 [some (.ref m), some (.int (iI n)), some (.int (iI f)), some (.int (iI ((2 * p : Nat) : Int))), o4] [] g Q := by
    intro g fg hB j
    obtain ⟨Mg, A30, A31, A27, A32, ix, i27, i32⟩ := dec g fg
    have x3 : zI g m 3 = iI ((2 * np : Nat) : Int) := by rw [ix]; exact h3
    induction j with
    | zero =>
      intro p o4 hp hA
      have e : p = np := by omega
      subst e
      refine vs_ok 4 ?_
      rw [show ((gRes 263).drop 70).take 4 = [.iload 3, .aload 0, .getfield 12030, .if_icmp .ge 100] from rfl]
      simp (disch := omega) only [vs_if_icmp, vs_getfield, vs_aload0, vs_iload3, vs_nil, gv_0, gv_1, gv_2, gv_3, pv_0, pv_1, va_rf_s, Nat.reduceDiv, Nat.reduceMod, Nat.reduceAdd, Nat.reduceMul, Int.reduceToNat, true_and, and_true, and_self, cP_eq, cP_ne, cP_lt, cP_ge, cP_gt, cP_le, eL_i, eL_l, eL_r, eL_n, Option.toList_none, Option.toList_some, List.nil_append, List.cons_append, kkI, llI, nnI, rrI, jjI, kkJ, llJ, nnJ, rrJ, iiJ, zIIs, zJJs, nEF, nET, and_false, false_and, jmin, jmax, catS_n, catS_i, catS_r, catS_l, Nat.reduceLeDiff, j1eq1, n21, jt0, jt1, Bool.false_eq_true, Classical.not_not, true_or, or_true, false_or, or_false, true_imp_iff, false_imp_iff, not_true_eq_false, not_false_eq_true, jif0, jif1, jifb, ltT, ltF, leT, leF, eqT, eqF, jlt, jle, jeq, jlt0, jle0, jeq0, jge0, jgt0, jinB, jnat, clt, cle, ceq, cgt, cge, lI_add, lI_sub, lI_mul, jadd, jsub, jmul, jneg, jtol, b010, b011, pv_2t, Int.toNat_natCast, Option.some.injEq, exists_eq_left', if_true, if_false, Mg, x3]
      refine vs_ok 2 ?_
      rw [show ((gRes 263).drop 100).take 2 = [.iconst 1, .ireturn] from rfl]
      simp (disch := omega) only [vs_iconst, vs_ireturn, vs_nil, gv_0, gv_1, gv_2, gv_3, pv_0, pv_1, va_rf_s, Nat.reduceDiv, Nat.reduceMod, Nat.reduceAdd, Nat.reduceMul, Int.reduceToNat, true_and, and_true, and_self, cP_eq, cP_ne, cP_lt, cP_ge, cP_gt, cP_le, eL_i, eL_l, eL_r, eL_n, Option.toList_none, Option.toList_some, List.nil_append, List.cons_append, kkI, llI, nnI, rrI, jjI, kkJ, llJ, nnJ, rrJ, iiJ, zIIs, zJJs, nEF, nET, and_false, false_and, jmin, jmax, catS_n, catS_i, catS_r, catS_l, Nat.reduceLeDiff, j1eq1, n21, jt0, jt1, Bool.false_eq_true, Classical.not_not, true_or, or_true, false_or, or_false, true_imp_iff, false_imp_iff, not_true_eq_false, not_false_eq_true, jif0, jif1, jifb, ltT, ltF, leT, leF, eqT, eqF, jlt, jle, jeq, jlt0, jle0, jeq0, jge0, jgt0, jinB, jnat, clt, cle, ceq, cgt, cge, lI_add, lI_sub, lI_mul, jadd, jsub, jmul, jneg, jtol, b010, b011, pv_2t, Int.toNat_natCast, Option.some.injEq, exists_eq_left', if_true, if_false, show gRc 263 = 2 from rfl]
      exact hq1 hA g fg
    | succ j ih =>
      intro p o4 hp hA
      obtain ⟨⟨q1, q2⟩, q3, q4⟩ := hpp p (by omega)
      have v1 : zI g (m + 32) (2 * p) = iI (pa p : Nat) := by rw [i32]; exact q3
      have v2 : zI g (m + 32) (2 * p + 1) = iI (pb p : Nat) := by rw [i32]; exact q4
      have v3 := hB (pa p) (pb p) q1 q2
      have e1 : ((2 * p : Nat) : Int) + 1 = ((2 * p + 1 : Nat) : Int) := by omega
      have e2 : ((2 * p : Nat) : Int) + 2 = ((2 * (p + 1) : Nat) : Int) := by omega
      have bl := btW_le w (pa p) (pb p) L
      have st : ∀ z, f * f < 2 * btW w (pa p) (pb p) L → z = z → _ := fun z y _ => ih (p + 1) z (by omega) fun q hq => by
        by_cases e : q = p
        · rw [e]; exact y
        · exact hA q (by omega)
      have no : ¬ f * f < 2 * btW w (pa p) (pb p) L → ¬ laW w L f np pa pb := fun y z => y (z p (by omega))
      generalize btW w (pa p) (pb p) L = b at *
      generalize pa p = a1 at *
      generalize pb p = a2 at *
      generalize f * f = f2 at *
      by_cases c : f2 < 2 * b
      · have nx := st o4 c rfl
        refine vs_ok 4 ?_
        rw [show ((gRes 263).drop 70).take 4 = [.iload 3, .aload 0, .getfield 12030, .if_icmp .ge 100] from rfl]
        simp (disch := omega) only [vs_if_icmp, vs_getfield, vs_aload0, vs_iload3, vs_nil, gv_0, gv_1, gv_2, gv_3, pv_0, pv_1, va_rf_s, Nat.reduceDiv, Nat.reduceMod, Nat.reduceAdd, Nat.reduceMul, Int.reduceToNat, true_and, and_true, and_self, cP_eq, cP_ne, cP_lt, cP_ge, cP_gt, cP_le, eL_i, eL_l, eL_r, eL_n, Option.toList_none, Option.toList_some, List.nil_append, List.cons_append, kkI, llI, nnI, rrI, jjI, kkJ, llJ, nnJ, rrJ, iiJ, zIIs, zJJs, nEF, nET, and_false, false_and, jmin, jmax, catS_n, catS_i, catS_r, catS_l, Nat.reduceLeDiff, j1eq1, n21, jt0, jt1, Bool.false_eq_true, Classical.not_not, true_or, or_true, false_or, or_false, true_imp_iff, false_imp_iff, not_true_eq_false, not_false_eq_true, jif0, jif1, jifb, ltT, ltF, leT, leF, eqT, eqF, jlt, jle, jeq, jlt0, jle0, jeq0, jge0, jgt0, jinB, jnat, clt, cle, ceq, cgt, cge, lI_add, lI_sub, lI_mul, jadd, jsub, jmul, jneg, jtol, b010, b011, pv_2t, Int.toNat_natCast, Option.some.injEq, exists_eq_left', if_true, if_false, Mg, x3]
        refine vs_ok 22 ?_
        rw [show ((gRes 263).drop 74).take 22 = [.iconst 2, .aload 0, .getfield 12492, .iconst 4, .aload 0, .getfield 12502, .iload 3, .iaload, .imul, .aload 0, .getfield 12502, .iload 3, .iconst 1, .iadd, .iaload, .iadd, .iaload, .imul, .iload 2, .iload 2, .imul, .if_icmp .gt 98] from rfl]
        simp (disch := omega) only [vs_iadd, vs_imul, vs_iconst, vs_if_icmp, vs_getfield, vs_iaload, vs_aload0, vs_iload2, vs_iload3, vs_nil, gv_0, gv_1, gv_2, gv_3, pv_0, pv_1, va_rf_s, Nat.reduceDiv, Nat.reduceMod, Nat.reduceAdd, Nat.reduceMul, Int.reduceToNat, true_and, and_true, and_self, cP_eq, cP_ne, cP_lt, cP_ge, cP_gt, cP_le, eL_i, eL_l, eL_r, eL_n, Option.toList_none, Option.toList_some, List.nil_append, List.cons_append, kkI, llI, nnI, rrI, jjI, kkJ, llJ, nnJ, rrJ, iiJ, zIIs, zJJs, nEF, nET, and_false, false_and, jmin, jmax, catS_n, catS_i, catS_r, catS_l, Nat.reduceLeDiff, j1eq1, n21, jt0, jt1, Bool.false_eq_true, Classical.not_not, true_or, or_true, false_or, or_false, true_imp_iff, false_imp_iff, not_true_eq_false, not_false_eq_true, jif0, jif1, jifb, ltT, ltF, leT, leF, eqT, eqF, jlt, jle, jeq, jlt0, jle0, jeq0, jge0, jgt0, jinB, jnat, clt, cle, ceq, cgt, cge, lI_add, lI_sub, lI_mul, jadd, jsub, jmul, jneg, jtol, b010, b011, pv_2t, Int.toNat_natCast, Option.some.injEq, exists_eq_left', if_true, if_false, Mg, A31, A32, v1, e1, v2, e4, v3, mu]
        refine vs_ok 2 ?_
        rw [show ((gRes 263).drop 98).take 2 = [.iinc 3 2, .goto 70] from rfl]
        simp (disch := omega) only [vs_goto, vs_iinc3n, vs_iinc3i, vs_iinc3r, vs_iinc3l, vs_nil, gv_0, gv_1, gv_2, gv_3, pv_0, pv_1, va_rf_s, Nat.reduceDiv, Nat.reduceMod, Nat.reduceAdd, Nat.reduceMul, Int.reduceToNat, true_and, and_true, and_self, cP_eq, cP_ne, cP_lt, cP_ge, cP_gt, cP_le, eL_i, eL_l, eL_r, eL_n, Option.toList_none, Option.toList_some, List.nil_append, List.cons_append, kkI, llI, nnI, rrI, jjI, kkJ, llJ, nnJ, rrJ, iiJ, zIIs, zJJs, nEF, nET, and_false, false_and, jmin, jmax, catS_n, catS_i, catS_r, catS_l, Nat.reduceLeDiff, j1eq1, n21, jt0, jt1, Bool.false_eq_true, Classical.not_not, true_or, or_true, false_or, or_false, true_imp_iff, false_imp_iff, not_true_eq_false, not_false_eq_true, jif0, jif1, jifb, ltT, ltF, leT, leF, eqT, eqF, jlt, jle, jeq, jlt0, jle0, jeq0, jge0, jgt0, jinB, jnat, clt, cle, ceq, cgt, cge, lI_add, lI_sub, lI_mul, jadd, jsub, jmul, jneg, jtol, b010, b011, pv_2t, Int.toNat_natCast, Option.some.injEq, exists_eq_left', if_true, if_false, e2]
        exact nx
      · have bad := no c
        refine vs_ok 4 ?_
        rw [show ((gRes 263).drop 70).take 4 = [.iload 3, .aload 0, .getfield 12030, .if_icmp .ge 100] from rfl]
        simp (disch := omega) only [vs_if_icmp, vs_getfield, vs_aload0, vs_iload3, vs_nil, gv_0, gv_1, gv_2, gv_3, pv_0, pv_1, va_rf_s, Nat.reduceDiv, Nat.reduceMod, Nat.reduceAdd, Nat.reduceMul, Int.reduceToNat, true_and, and_true, and_self, cP_eq, cP_ne, cP_lt, cP_ge, cP_gt, cP_le, eL_i, eL_l, eL_r, eL_n, Option.toList_none, Option.toList_some, List.nil_append, List.cons_append, kkI, llI, nnI, rrI, jjI, kkJ, llJ, nnJ, rrJ, iiJ, zIIs, zJJs, nEF, nET, and_false, false_and, jmin, jmax, catS_n, catS_i, catS_r, catS_l, Nat.reduceLeDiff, j1eq1, n21, jt0, jt1, Bool.false_eq_true, Classical.not_not, true_or, or_true, false_or, or_false, true_imp_iff, false_imp_iff, not_true_eq_false, not_false_eq_true, jif0, jif1, jifb, ltT, ltF, leT, leF, eqT, eqF, jlt, jle, jeq, jlt0, jle0, jeq0, jge0, jgt0, jinB, jnat, clt, cle, ceq, cgt, cge, lI_add, lI_sub, lI_mul, jadd, jsub, jmul, jneg, jtol, b010, b011, pv_2t, Int.toNat_natCast, Option.some.injEq, exists_eq_left', if_true, if_false, Mg, x3]
        refine vs_ok 22 ?_
        rw [show ((gRes 263).drop 74).take 22 = [.iconst 2, .aload 0, .getfield 12492, .iconst 4, .aload 0, .getfield 12502, .iload 3, .iaload, .imul, .aload 0, .getfield 12502, .iload 3, .iconst 1, .iadd, .iaload, .iadd, .iaload, .imul, .iload 2, .iload 2, .imul, .if_icmp .gt 98] from rfl]
        simp (disch := omega) only [vs_iadd, vs_imul, vs_iconst, vs_if_icmp, vs_getfield, vs_iaload, vs_aload0, vs_iload2, vs_iload3, vs_nil, gv_0, gv_1, gv_2, gv_3, pv_0, pv_1, va_rf_s, Nat.reduceDiv, Nat.reduceMod, Nat.reduceAdd, Nat.reduceMul, Int.reduceToNat, true_and, and_true, and_self, cP_eq, cP_ne, cP_lt, cP_ge, cP_gt, cP_le, eL_i, eL_l, eL_r, eL_n, Option.toList_none, Option.toList_some, List.nil_append, List.cons_append, kkI, llI, nnI, rrI, jjI, kkJ, llJ, nnJ, rrJ, iiJ, zIIs, zJJs, nEF, nET, and_false, false_and, jmin, jmax, catS_n, catS_i, catS_r, catS_l, Nat.reduceLeDiff, j1eq1, n21, jt0, jt1, Bool.false_eq_true, Classical.not_not, true_or, or_true, false_or, or_false, true_imp_iff, false_imp_iff, not_true_eq_false, not_false_eq_true, jif0, jif1, jifb, ltT, ltF, leT, leF, eqT, eqF, jlt, jle, jeq, jlt0, jle0, jeq0, jge0, jgt0, jinB, jnat, clt, cle, ceq, cgt, cge, lI_add, lI_sub, lI_mul, jadd, jsub, jmul, jneg, jtol, b010, b011, pv_2t, Int.toNat_natCast, Option.some.injEq, exists_eq_left', if_true, if_false, Mg, A31, A32, v1, e1, v2, e4, v3, mu]
        refine vs_ok 2 ?_
        rw [show ((gRes 263).drop 96).take 2 = [.iconst 0, .ireturn] from rfl]
        simp (disch := omega) only [vs_iconst, vs_ireturn, vs_nil, gv_0, gv_1, gv_2, gv_3, pv_0, pv_1, va_rf_s, Nat.reduceDiv, Nat.reduceMod, Nat.reduceAdd, Nat.reduceMul, Int.reduceToNat, true_and, and_true, and_self, cP_eq, cP_ne, cP_lt, cP_ge, cP_gt, cP_le, eL_i, eL_l, eL_r, eL_n, Option.toList_none, Option.toList_some, List.nil_append, List.cons_append, kkI, llI, nnI, rrI, jjI, kkJ, llJ, nnJ, rrJ, iiJ, zIIs, zJJs, nEF, nET, and_false, false_and, jmin, jmax, catS_n, catS_i, catS_r, catS_l, Nat.reduceLeDiff, j1eq1, n21, jt0, jt1, Bool.false_eq_true, Classical.not_not, true_or, or_true, false_or, or_false, true_imp_iff, false_imp_iff, not_true_eq_false, not_false_eq_true, jif0, jif1, jifb, ltT, ltF, leT, leF, eqT, eqF, jlt, jle, jeq, jlt0, jle0, jeq0, jge0, jgt0, jinB, jnat, clt, cle, ceq, cgt, cge, lI_add, lI_sub, lI_mul, jadd, jsub, jmul, jneg, jtol, b010, b011, pv_2t, Int.toNat_natCast, Option.some.injEq, exists_eq_left', if_true, if_false, show gRc 263 = 2 from rfl]
        exact hq0 bad g fg
  -- the letters
  have l26 : ∀ (j i : Nat) (g : Hp) (o4 : Option Value), j + i = L → fi (fun q => q = m + 30 ∨ q = m + 31) h g → (∀ o, o < 4 → zI g (m + 30) o = iI (cnW w o i : Nat)) → (∀ a o, a < 4 → o < n → zI g (m + 31) (4 * a + o) = iI (btW w a o i : Nat)) → PW d 263 26 [some (.ref m), some (.int (iI n)), some (.int (iI f)), some (.int (iI i)), o4] [] g Q := by
    intro j
    induction j with
    | zero =>
      intro i g o4 hi fg hC hB
      have e : i = L := by omega
      subst e
      obtain ⟨Mg, A30, A31, A27, A32, ix, i27, i32⟩ := dec g fg
      have x52 : zI g m 52 = iI i := by rw [ix]; exact h52
      refine vs_ok 4 ?_
      rw [show ((gRes 263).drop 26).take 4 = [.iload 3, .aload 0, .getfield 12520, .if_icmp .ge 68] from rfl]
      simp (disch := omega) only [vs_if_icmp, vs_getfield, vs_aload0, vs_iload3, vs_nil, gv_0, gv_1, gv_2, gv_3, pv_0, pv_1, va_rf_s, Nat.reduceDiv, Nat.reduceMod, Nat.reduceAdd, Nat.reduceMul, Int.reduceToNat, true_and, and_true, and_self, cP_eq, cP_ne, cP_lt, cP_ge, cP_gt, cP_le, eL_i, eL_l, eL_r, eL_n, Option.toList_none, Option.toList_some, List.nil_append, List.cons_append, kkI, llI, nnI, rrI, jjI, kkJ, llJ, nnJ, rrJ, iiJ, zIIs, zJJs, nEF, nET, and_false, false_and, jmin, jmax, catS_n, catS_i, catS_r, catS_l, Nat.reduceLeDiff, j1eq1, n21, jt0, jt1, Bool.false_eq_true, Classical.not_not, true_or, or_true, false_or, or_false, true_imp_iff, false_imp_iff, not_true_eq_false, not_false_eq_true, jif0, jif1, jifb, ltT, ltF, leT, leF, eqT, eqF, jlt, jle, jeq, jlt0, jle0, jeq0, jge0, jgt0, jinB, jnat, clt, cle, ceq, cgt, cge, lI_add, lI_sub, lI_mul, jadd, jsub, jmul, jneg, jtol, b010, b011, pv_2t, Int.toNat_natCast, Option.some.injEq, exists_eq_left', if_true, if_false, Mg, x52]
      refine vs_ok 2 ?_
      rw [show ((gRes 263).drop 68).take 2 = [.iconst 0, .istore 3] from rfl]
      simp (disch := omega) only [vs_iconst, vs_istore3n, vs_istore3i, vs_istore3r, vs_istore3l, vs_nil, gv_0, gv_1, gv_2, gv_3, pv_0, pv_1, va_rf_s, Nat.reduceDiv, Nat.reduceMod, Nat.reduceAdd, Nat.reduceMul, Int.reduceToNat, true_and, and_true, and_self, cP_eq, cP_ne, cP_lt, cP_ge, cP_gt, cP_le, eL_i, eL_l, eL_r, eL_n, Option.toList_none, Option.toList_some, List.nil_append, List.cons_append, kkI, llI, nnI, rrI, jjI, kkJ, llJ, nnJ, rrJ, iiJ, zIIs, zJJs, nEF, nET, and_false, false_and, jmin, jmax, catS_n, catS_i, catS_r, catS_l, Nat.reduceLeDiff, j1eq1, n21, jt0, jt1, Bool.false_eq_true, Classical.not_not, true_or, or_true, false_or, or_false, true_imp_iff, false_imp_iff, not_true_eq_false, not_false_eq_true, jif0, jif1, jifb, ltT, ltF, leT, leF, eqT, eqF, jlt, jle, jeq, jlt0, jle0, jeq0, jge0, jgt0, jinB, jnat, clt, cle, ceq, cgt, cge, lI_add, lI_sub, lI_mul, jadd, jsub, jmul, jneg, jtol, b010, b011, pv_2t, Int.toNat_natCast, Option.some.injEq, exists_eq_left', if_true, if_false]
      exact l70 g fg (fun a o ha ho => hB a o (by omega) ho) np 0 o4 (by omega) fun q hq => absurd hq (by omega)
    | succ j ih =>
      intro i g o4 hi fg hC hB
      have wi := hw i (by omega)
      have l32 : ∀ (j2 o : Nat) (g2 : Hp), j2 + o = n → fi (fun q => q = m + 30 ∨ q = m + 31) h g2 → (∀ o, o < 4 → zI g2 (m + 30) o = iI (cnW w o i : Nat)) → (∀ a u, a < 4 → u < n → zI g2 (m + 31) (4 * a + u) = iI ((if u < o then btW w a u (i + 1) else btW w a u i : Nat) : Int)) → PW d 263 32 [some (.ref m), some (.int (iI n)), some (.int (iI f)), some (.int (iI i)), some (.int (iI o))] [] g2 Q := by
        intro j2
        induction j2 with
        | zero =>
          intro o g2 ho f2 hC2 hB2
          have e : o = n := by omega
          subst e
          obtain ⟨Mg, A30, A31, A27, A32, ix, i27, i32⟩ := dec g2 f2
          have vi : zI g2 (m + 27) i = iI (w i : Nat) := by rw [i27]; exact (t.2.2 i (by omega)).2
          have vc := hC2 (w i) (by omega)
          have cl := cnW_le w (w i) i
          have nx := ih (i + 1) (zsI g2 (m + 30) (w i) (iI ((cnW w (w i) i : Nat) + 1 : Int))) (some (.int (iI o))) (by omega) (f2.I (Or.inl rfl)) (fun u hu => by
            rw [zI_s]
            show _ = iI ((cnW w u i + if w i = u then 1 else 0 : Nat) : Int)
            by_cases y : u = w i
            · rw [if_pos ⟨rfl, y⟩, if_pos y.symm, y]
              rfl
            · rw [if_neg fun z => y z.2, if_neg fun z => y z.symm]
              exact hC2 u hu) fun a u ha hu => by
            rw [zI_s, if_neg (by omega), hB2 a u ha hu, if_pos hu]
          generalize w i = wi0 at *
          generalize cnW w wi0 i = cc at *
          refine vs_ok 3 ?_
          rw [show ((gRes 263).drop 32).take 3 = [.iload 4, .iload 1, .if_icmp .ge 55] from rfl]
          simp (disch := omega) only [vs_if_icmp, vs_iload1, vs_iload4, vs_nil, gv_0, gv_1, gv_2, gv_3, pv_0, pv_1, va_rf_s, Nat.reduceDiv, Nat.reduceMod, Nat.reduceAdd, Nat.reduceMul, Int.reduceToNat, true_and, and_true, and_self, cP_eq, cP_ne, cP_lt, cP_ge, cP_gt, cP_le, eL_i, eL_l, eL_r, eL_n, Option.toList_none, Option.toList_some, List.nil_append, List.cons_append, kkI, llI, nnI, rrI, jjI, kkJ, llJ, nnJ, rrJ, iiJ, zIIs, zJJs, nEF, nET, and_false, false_and, jmin, jmax, catS_n, catS_i, catS_r, catS_l, Nat.reduceLeDiff, j1eq1, n21, jt0, jt1, Bool.false_eq_true, Classical.not_not, true_or, or_true, false_or, or_false, true_imp_iff, false_imp_iff, not_true_eq_false, not_false_eq_true, jif0, jif1, jifb, ltT, ltF, leT, leF, eqT, eqF, jlt, jle, jeq, jlt0, jle0, jeq0, jge0, jgt0, jinB, jnat, clt, cle, ceq, cgt, cge, lI_add, lI_sub, lI_mul, jadd, jsub, jmul, jneg, jtol, b010, b011, pv_2t, Int.toNat_natCast, Option.some.injEq, exists_eq_left', if_true, if_false]
          refine vs_ok 13 ?_
          rw [show ((gRes 263).drop 55).take 13 = [.aload 0, .getfield 12482, .aload 0, .getfield 12452, .iload 3, .iaload, .dup2, .iaload, .iconst 1, .iadd, .iastore, .iinc 3 1, .goto 26] from rfl]
          simp (disch := omega) only [vs_iadd, vs_iconst, vs_goto, vs_getfield, vs_iaload, vs_iastore, vs_dup2, vs_aload0, vs_iload3, vs_iinc3n, vs_iinc3i, vs_iinc3r, vs_iinc3l, vs_nil, gv_0, gv_1, gv_2, gv_3, pv_0, pv_1, va_rf_s, Nat.reduceDiv, Nat.reduceMod, Nat.reduceAdd, Nat.reduceMul, Int.reduceToNat, true_and, and_true, and_self, cP_eq, cP_ne, cP_lt, cP_ge, cP_gt, cP_le, eL_i, eL_l, eL_r, eL_n, Option.toList_none, Option.toList_some, List.nil_append, List.cons_append, kkI, llI, nnI, rrI, jjI, kkJ, llJ, nnJ, rrJ, iiJ, zIIs, zJJs, nEF, nET, and_false, false_and, jmin, jmax, catS_n, catS_i, catS_r, catS_l, Nat.reduceLeDiff, j1eq1, n21, jt0, jt1, Bool.false_eq_true, Classical.not_not, true_or, or_true, false_or, or_false, true_imp_iff, false_imp_iff, not_true_eq_false, not_false_eq_true, jif0, jif1, jifb, ltT, ltF, leT, leF, eqT, eqF, jlt, jle, jeq, jlt0, jle0, jeq0, jge0, jgt0, jinB, jnat, clt, cle, ceq, cgt, cge, lI_add, lI_sub, lI_mul, jadd, jsub, jmul, jneg, jtol, b010, b011, pv_2t, Int.toNat_natCast, Option.some.injEq, exists_eq_left', if_true, if_false, Mg, A30, A27, vi, vc]
          exact nx
        | succ j2 ih2 =>
          intro o g2 ho f2 hC2 hB2
          obtain ⟨Mg, A30, A31, A27, A32, ix, i27, i32⟩ := dec g2 f2
          have vi : zI g2 (m + 27) i = iI (w i : Nat) := by rw [i27]; exact (t.2.2 i (by omega)).2
          have vc := hC2 o (by omega)
          have vb := hB2 (w i) o (by omega) (by omega)
          rw [if_neg (by omega)] at vb
          have cl := cnW_le w o i
          have bl := btW_le w (w i) o i
          have ii : i * i ≤ 24 * 24 := Nat.mul_le_mul (by omega) (by omega)
          have nx := ih2 (o + 1) (zsI g2 (m + 31) (4 * w i + o) (iI ((btW w (w i) o i : Nat) + (cnW w o i : Nat) : Int))) (by omega) (f2.I (Or.inr rfl)) (fun u hu => by rw [zI_s, if_neg (by omega)]; exact hC2 u hu) fun a u ha hu => by
            rw [zI_s]
            have es : btW w a u (i + 1) = btW w a u i + if w i = a then cnW w u i else 0 := rfl
            by_cases y : a = w i ∧ u = o
            · rw [if_pos ⟨rfl, by rw [y.1, y.2]⟩, if_pos (show u < o + 1 by omega), es, if_pos y.1.symm, y.1, y.2]
              rfl
            · rw [if_neg (show ¬ (m + 31 = m + 31 ∧ 4 * a + u = 4 * w i + o) by omega), hB2 a u ha hu]
              by_cases c : u < o
              · rw [if_pos c, if_pos (show u < o + 1 by omega)]
              · rw [if_neg c]
                by_cases c2 : u = o
                · rw [if_pos (show u < o + 1 by omega), es, if_neg (show ¬ w i = a from fun z => y ⟨z.symm, c2⟩), Nat.add_zero]
                · rw [if_neg (show ¬ u < o + 1 by omega)]
          generalize w i = wi0 at *
          generalize cnW w o i = cc at *
          generalize btW w wi0 o i = bb at *
          refine vs_ok 3 ?_
          rw [show ((gRes 263).drop 32).take 3 = [.iload 4, .iload 1, .if_icmp .ge 55] from rfl]
          simp (disch := omega) only [vs_if_icmp, vs_iload1, vs_iload4, vs_nil, gv_0, gv_1, gv_2, gv_3, pv_0, pv_1, va_rf_s, Nat.reduceDiv, Nat.reduceMod, Nat.reduceAdd, Nat.reduceMul, Int.reduceToNat, true_and, and_true, and_self, cP_eq, cP_ne, cP_lt, cP_ge, cP_gt, cP_le, eL_i, eL_l, eL_r, eL_n, Option.toList_none, Option.toList_some, List.nil_append, List.cons_append, kkI, llI, nnI, rrI, jjI, kkJ, llJ, nnJ, rrJ, iiJ, zIIs, zJJs, nEF, nET, and_false, false_and, jmin, jmax, catS_n, catS_i, catS_r, catS_l, Nat.reduceLeDiff, j1eq1, n21, jt0, jt1, Bool.false_eq_true, Classical.not_not, true_or, or_true, false_or, or_false, true_imp_iff, false_imp_iff, not_true_eq_false, not_false_eq_true, jif0, jif1, jifb, ltT, ltF, leT, leF, eqT, eqF, jlt, jle, jeq, jlt0, jle0, jeq0, jge0, jgt0, jinB, jnat, clt, cle, ceq, cgt, cge, lI_add, lI_sub, lI_mul, jadd, jsub, jmul, jneg, jtol, b010, b011, pv_2t, Int.toNat_natCast, Option.some.injEq, exists_eq_left', if_true, if_false]
          refine vs_ok 20 ?_
          rw [show ((gRes 263).drop 35).take 20 = [.aload 0, .getfield 12492, .iconst 4, .aload 0, .getfield 12452, .iload 3, .iaload, .imul, .iload 4, .iadd, .dup2, .iaload, .aload 0, .getfield 12482, .iload 4, .iaload, .iadd, .iastore, .iinc 4 1, .goto 32] from rfl]
          simp (disch := omega) only [vs_iadd, vs_imul, vs_iconst, vs_goto, vs_getfield, vs_iaload, vs_iastore, vs_dup2, vs_aload0, vs_iload3, vs_iload4, vs_iinc4n, vs_iinc4i, vs_iinc4r, vs_iinc4l, vs_nil, gv_0, gv_1, gv_2, gv_3, pv_0, pv_1, va_rf_s, Nat.reduceDiv, Nat.reduceMod, Nat.reduceAdd, Nat.reduceMul, Int.reduceToNat, true_and, and_true, and_self, cP_eq, cP_ne, cP_lt, cP_ge, cP_gt, cP_le, eL_i, eL_l, eL_r, eL_n, Option.toList_none, Option.toList_some, List.nil_append, List.cons_append, kkI, llI, nnI, rrI, jjI, kkJ, llJ, nnJ, rrJ, iiJ, zIIs, zJJs, nEF, nET, and_false, false_and, jmin, jmax, catS_n, catS_i, catS_r, catS_l, Nat.reduceLeDiff, j1eq1, n21, jt0, jt1, Bool.false_eq_true, Classical.not_not, true_or, or_true, false_or, or_false, true_imp_iff, false_imp_iff, not_true_eq_false, not_false_eq_true, jif0, jif1, jifb, ltT, ltF, leT, leF, eqT, eqF, jlt, jle, jeq, jlt0, jle0, jeq0, jge0, jgt0, jinB, jnat, clt, cle, ceq, cgt, cge, lI_add, lI_sub, lI_mul, jadd, jsub, jmul, jneg, jtol, b010, b011, pv_2t, Int.toNat_natCast, Option.some.injEq, exists_eq_left', if_true, if_false, Mg, A31, A30, A27, vi, e4, vb, vc]
          exact nx
      obtain ⟨Mg, A30, A31, A27, A32, ix, i27, i32⟩ := dec g fg
      have x52 : zI g m 52 = iI L := by rw [ix]; exact h52
      refine vs_ok 4 ?_
      rw [show ((gRes 263).drop 26).take 4 = [.iload 3, .aload 0, .getfield 12520, .if_icmp .ge 68] from rfl]
      simp (disch := omega) only [vs_if_icmp, vs_getfield, vs_aload0, vs_iload3, vs_nil, gv_0, gv_1, gv_2, gv_3, pv_0, pv_1, va_rf_s, Nat.reduceDiv, Nat.reduceMod, Nat.reduceAdd, Nat.reduceMul, Int.reduceToNat, true_and, and_true, and_self, cP_eq, cP_ne, cP_lt, cP_ge, cP_gt, cP_le, eL_i, eL_l, eL_r, eL_n, Option.toList_none, Option.toList_some, List.nil_append, List.cons_append, kkI, llI, nnI, rrI, jjI, kkJ, llJ, nnJ, rrJ, iiJ, zIIs, zJJs, nEF, nET, and_false, false_and, jmin, jmax, catS_n, catS_i, catS_r, catS_l, Nat.reduceLeDiff, j1eq1, n21, jt0, jt1, Bool.false_eq_true, Classical.not_not, true_or, or_true, false_or, or_false, true_imp_iff, false_imp_iff, not_true_eq_false, not_false_eq_true, jif0, jif1, jifb, ltT, ltF, leT, leF, eqT, eqF, jlt, jle, jeq, jlt0, jle0, jeq0, jge0, jgt0, jinB, jnat, clt, cle, ceq, cgt, cge, lI_add, lI_sub, lI_mul, jadd, jsub, jmul, jneg, jtol, b010, b011, pv_2t, Int.toNat_natCast, Option.some.injEq, exists_eq_left', if_true, if_false, Mg, x52]
      refine vs_ok 2 ?_
      rw [show ((gRes 263).drop 30).take 2 = [.iconst 0, .istore 4] from rfl]
      simp (disch := omega) only [vs_iconst, vs_istore4n, vs_istore4i, vs_istore4r, vs_istore4l, vs_nil, gv_0, gv_1, gv_2, gv_3, pv_0, pv_1, va_rf_s, Nat.reduceDiv, Nat.reduceMod, Nat.reduceAdd, Nat.reduceMul, Int.reduceToNat, true_and, and_true, and_self, cP_eq, cP_ne, cP_lt, cP_ge, cP_gt, cP_le, eL_i, eL_l, eL_r, eL_n, Option.toList_none, Option.toList_some, List.nil_append, List.cons_append, kkI, llI, nnI, rrI, jjI, kkJ, llJ, nnJ, rrJ, iiJ, zIIs, zJJs, nEF, nET, and_false, false_and, jmin, jmax, catS_n, catS_i, catS_r, catS_l, Nat.reduceLeDiff, j1eq1, n21, jt0, jt1, Bool.false_eq_true, Classical.not_not, true_or, or_true, false_or, or_false, true_imp_iff, false_imp_iff, not_true_eq_false, not_false_eq_true, jif0, jif1, jifb, ltT, ltF, leT, leF, eqT, eqF, jlt, jle, jeq, jlt0, jle0, jeq0, jge0, jgt0, jinB, jnat, clt, cle, ceq, cgt, cge, lI_add, lI_sub, lI_mul, jadd, jsub, jmul, jneg, jtol, b010, b011, pv_2t, Int.toNat_natCast, Option.some.injEq, exists_eq_left', if_true, if_false]
      exact l32 n 0 g (by omega) fg hC fun a u ha hu => by rw [if_neg (by omega)]; exact hB a u ha hu
  have l14 : ∀ (j i : Nat) (g : Hp), j + i = 16 → fi (fun q => q = m + 30 ∨ q = m + 31) h g → (∀ o, o < 4 → zI g (m + 30) o = iI 0) → (∀ q, q < i → zI g (m + 31) q = iI 0) → PW d 263 14 [some (.ref m), some (.int (iI n)), some (.int (iI f)), some (.int (iI i)), none] [] g Q := by
    intro j
    induction j with
    | zero =>
      intro i g hi fg hC hB
      have e : i = 16 := by omega
      subst e
      refine vs_ok 3 ?_
      rw [show ((gRes 263).drop 14).take 3 = [.iload 3, .iconst 16, .if_icmp .ge 24] from rfl]
      simp (disch := omega) only [vs_iconst, vs_if_icmp, vs_iload3, vs_nil, gv_0, gv_1, gv_2, gv_3, pv_0, pv_1, va_rf_s, Nat.reduceDiv, Nat.reduceMod, Nat.reduceAdd, Nat.reduceMul, Int.reduceToNat, true_and, and_true, and_self, cP_eq, cP_ne, cP_lt, cP_ge, cP_gt, cP_le, eL_i, eL_l, eL_r, eL_n, Option.toList_none, Option.toList_some, List.nil_append, List.cons_append, kkI, llI, nnI, rrI, jjI, kkJ, llJ, nnJ, rrJ, iiJ, zIIs, zJJs, nEF, nET, and_false, false_and, jmin, jmax, catS_n, catS_i, catS_r, catS_l, Nat.reduceLeDiff, j1eq1, n21, jt0, jt1, Bool.false_eq_true, Classical.not_not, true_or, or_true, false_or, or_false, true_imp_iff, false_imp_iff, not_true_eq_false, not_false_eq_true, jif0, jif1, jifb, ltT, ltF, leT, leF, eqT, eqF, jlt, jle, jeq, jlt0, jle0, jeq0, jge0, jgt0, jinB, jnat, clt, cle, ceq, cgt, cge, lI_add, lI_sub, lI_mul, jadd, jsub, jmul, jneg, jtol, b010, b011, pv_2t, Int.toNat_natCast, Option.some.injEq, exists_eq_left', if_true, if_false]
      refine vs_ok 2 ?_
      rw [show ((gRes 263).drop 24).take 2 = [.iconst 0, .istore 3] from rfl]
      simp (disch := omega) only [vs_iconst, vs_istore3n, vs_istore3i, vs_istore3r, vs_istore3l, vs_nil, gv_0, gv_1, gv_2, gv_3, pv_0, pv_1, va_rf_s, Nat.reduceDiv, Nat.reduceMod, Nat.reduceAdd, Nat.reduceMul, Int.reduceToNat, true_and, and_true, and_self, cP_eq, cP_ne, cP_lt, cP_ge, cP_gt, cP_le, eL_i, eL_l, eL_r, eL_n, Option.toList_none, Option.toList_some, List.nil_append, List.cons_append, kkI, llI, nnI, rrI, jjI, kkJ, llJ, nnJ, rrJ, iiJ, zIIs, zJJs, nEF, nET, and_false, false_and, jmin, jmax, catS_n, catS_i, catS_r, catS_l, Nat.reduceLeDiff, j1eq1, n21, jt0, jt1, Bool.false_eq_true, Classical.not_not, true_or, or_true, false_or, or_false, true_imp_iff, false_imp_iff, not_true_eq_false, not_false_eq_true, jif0, jif1, jifb, ltT, ltF, leT, leF, eqT, eqF, jlt, jle, jeq, jlt0, jle0, jeq0, jge0, jgt0, jinB, jnat, clt, cle, ceq, cgt, cge, lI_add, lI_sub, lI_mul, jadd, jsub, jmul, jneg, jtol, b010, b011, pv_2t, Int.toNat_natCast, Option.some.injEq, exists_eq_left', if_true, if_false]
      exact l26 L 0 g none (by omega) fg (fun o ho => hC o ho) fun a o ha ho => hB _ (by omega)
    | succ j ih =>
      intro i g hi fg hC hB
      obtain ⟨Mg, A30, A31, -⟩ := dec g fg
      refine vs_ok 3 ?_
      rw [show ((gRes 263).drop 14).take 3 = [.iload 3, .iconst 16, .if_icmp .ge 24] from rfl]
      simp (disch := omega) only [vs_iconst, vs_if_icmp, vs_iload3, vs_nil, gv_0, gv_1, gv_2, gv_3, pv_0, pv_1, va_rf_s, Nat.reduceDiv, Nat.reduceMod, Nat.reduceAdd, Nat.reduceMul, Int.reduceToNat, true_and, and_true, and_self, cP_eq, cP_ne, cP_lt, cP_ge, cP_gt, cP_le, eL_i, eL_l, eL_r, eL_n, Option.toList_none, Option.toList_some, List.nil_append, List.cons_append, kkI, llI, nnI, rrI, jjI, kkJ, llJ, nnJ, rrJ, iiJ, zIIs, zJJs, nEF, nET, and_false, false_and, jmin, jmax, catS_n, catS_i, catS_r, catS_l, Nat.reduceLeDiff, j1eq1, n21, jt0, jt1, Bool.false_eq_true, Classical.not_not, true_or, or_true, false_or, or_false, true_imp_iff, false_imp_iff, not_true_eq_false, not_false_eq_true, jif0, jif1, jifb, ltT, ltF, leT, leF, eqT, eqF, jlt, jle, jeq, jlt0, jle0, jeq0, jge0, jgt0, jinB, jnat, clt, cle, ceq, cgt, cge, lI_add, lI_sub, lI_mul, jadd, jsub, jmul, jneg, jtol, b010, b011, pv_2t, Int.toNat_natCast, Option.some.injEq, exists_eq_left', if_true, if_false]
      refine vs_ok 7 ?_
      rw [show ((gRes 263).drop 17).take 7 = [.aload 0, .getfield 12492, .iload 3, .iconst 0, .iastore, .iinc 3 1, .goto 14] from rfl]
      simp (disch := omega) only [vs_iconst, vs_goto, vs_getfield, vs_iastore, vs_aload0, vs_iload3, vs_iinc3n, vs_iinc3i, vs_iinc3r, vs_iinc3l, vs_nil, gv_0, gv_1, gv_2, gv_3, pv_0, pv_1, va_rf_s, Nat.reduceDiv, Nat.reduceMod, Nat.reduceAdd, Nat.reduceMul, Int.reduceToNat, true_and, and_true, and_self, cP_eq, cP_ne, cP_lt, cP_ge, cP_gt, cP_le, eL_i, eL_l, eL_r, eL_n, Option.toList_none, Option.toList_some, List.nil_append, List.cons_append, kkI, llI, nnI, rrI, jjI, kkJ, llJ, nnJ, rrJ, iiJ, zIIs, zJJs, nEF, nET, and_false, false_and, jmin, jmax, catS_n, catS_i, catS_r, catS_l, Nat.reduceLeDiff, j1eq1, n21, jt0, jt1, Bool.false_eq_true, Classical.not_not, true_or, or_true, false_or, or_false, true_imp_iff, false_imp_iff, not_true_eq_false, not_false_eq_true, jif0, jif1, jifb, ltT, ltF, leT, leF, eqT, eqF, jlt, jle, jeq, jlt0, jle0, jeq0, jge0, jgt0, jinB, jnat, clt, cle, ceq, cgt, cge, lI_add, lI_sub, lI_mul, jadd, jsub, jmul, jneg, jtol, b010, b011, pv_2t, Int.toNat_natCast, Option.some.injEq, exists_eq_left', if_true, if_false, Mg, A31]
      refine ih (i + 1) _ (by omega) (fg.I (Or.inr rfl)) (fun o ho => by rw [zI_s, if_neg (by omega)]; exact hC o ho) fun q hq => ?_
      rw [zI_s]
      by_cases y : q = i
      · rw [if_pos ⟨rfl, y⟩]
      · rw [if_neg fun z => y z.2]
        exact hB q (by omega)
  have l2 : ∀ (j i : Nat) (g : Hp), j + i = 4 → fi (fun q => q = m + 30 ∨ q = m + 31) h g → (∀ q, q < i → zI g (m + 30) q = iI 0) → PW d 263 2 [some (.ref m), some (.int (iI n)), some (.int (iI f)), some (.int (iI i)), none] [] g Q := by
    intro j
    induction j with
    | zero =>
      intro i g hi fg hC
      have e : i = 4 := by omega
      subst e
      refine vs_ok 3 ?_
      rw [show ((gRes 263).drop 2).take 3 = [.iload 3, .iconst 4, .if_icmp .ge 12] from rfl]
      simp (disch := omega) only [vs_iconst, vs_if_icmp, vs_iload3, vs_nil, gv_0, gv_1, gv_2, gv_3, pv_0, pv_1, va_rf_s, Nat.reduceDiv, Nat.reduceMod, Nat.reduceAdd, Nat.reduceMul, Int.reduceToNat, true_and, and_true, and_self, cP_eq, cP_ne, cP_lt, cP_ge, cP_gt, cP_le, eL_i, eL_l, eL_r, eL_n, Option.toList_none, Option.toList_some, List.nil_append, List.cons_append, kkI, llI, nnI, rrI, jjI, kkJ, llJ, nnJ, rrJ, iiJ, zIIs, zJJs, nEF, nET, and_false, false_and, jmin, jmax, catS_n, catS_i, catS_r, catS_l, Nat.reduceLeDiff, j1eq1, n21, jt0, jt1, Bool.false_eq_true, Classical.not_not, true_or, or_true, false_or, or_false, true_imp_iff, false_imp_iff, not_true_eq_false, not_false_eq_true, jif0, jif1, jifb, ltT, ltF, leT, leF, eqT, eqF, jlt, jle, jeq, jlt0, jle0, jeq0, jge0, jgt0, jinB, jnat, clt, cle, ceq, cgt, cge, lI_add, lI_sub, lI_mul, jadd, jsub, jmul, jneg, jtol, b010, b011, pv_2t, Int.toNat_natCast, Option.some.injEq, exists_eq_left', if_true, if_false]
      refine vs_ok 2 ?_
      rw [show ((gRes 263).drop 12).take 2 = [.iconst 0, .istore 3] from rfl]
      simp (disch := omega) only [vs_iconst, vs_istore3n, vs_istore3i, vs_istore3r, vs_istore3l, vs_nil, gv_0, gv_1, gv_2, gv_3, pv_0, pv_1, va_rf_s, Nat.reduceDiv, Nat.reduceMod, Nat.reduceAdd, Nat.reduceMul, Int.reduceToNat, true_and, and_true, and_self, cP_eq, cP_ne, cP_lt, cP_ge, cP_gt, cP_le, eL_i, eL_l, eL_r, eL_n, Option.toList_none, Option.toList_some, List.nil_append, List.cons_append, kkI, llI, nnI, rrI, jjI, kkJ, llJ, nnJ, rrJ, iiJ, zIIs, zJJs, nEF, nET, and_false, false_and, jmin, jmax, catS_n, catS_i, catS_r, catS_l, Nat.reduceLeDiff, j1eq1, n21, jt0, jt1, Bool.false_eq_true, Classical.not_not, true_or, or_true, false_or, or_false, true_imp_iff, false_imp_iff, not_true_eq_false, not_false_eq_true, jif0, jif1, jifb, ltT, ltF, leT, leF, eqT, eqF, jlt, jle, jeq, jlt0, jle0, jeq0, jge0, jgt0, jinB, jnat, clt, cle, ceq, cgt, cge, lI_add, lI_sub, lI_mul, jadd, jsub, jmul, jneg, jtol, b010, b011, pv_2t, Int.toNat_natCast, Option.some.injEq, exists_eq_left', if_true, if_false]
      exact l14 16 0 g rfl fg hC fun q hq => absurd hq (by omega)
    | succ j ih =>
      intro i g hi fg hC
      obtain ⟨Mg, A30, -⟩ := dec g fg
      refine vs_ok 3 ?_
      rw [show ((gRes 263).drop 2).take 3 = [.iload 3, .iconst 4, .if_icmp .ge 12] from rfl]
      simp (disch := omega) only [vs_iconst, vs_if_icmp, vs_iload3, vs_nil, gv_0, gv_1, gv_2, gv_3, pv_0, pv_1, va_rf_s, Nat.reduceDiv, Nat.reduceMod, Nat.reduceAdd, Nat.reduceMul, Int.reduceToNat, true_and, and_true, and_self, cP_eq, cP_ne, cP_lt, cP_ge, cP_gt, cP_le, eL_i, eL_l, eL_r, eL_n, Option.toList_none, Option.toList_some, List.nil_append, List.cons_append, kkI, llI, nnI, rrI, jjI, kkJ, llJ, nnJ, rrJ, iiJ, zIIs, zJJs, nEF, nET, and_false, false_and, jmin, jmax, catS_n, catS_i, catS_r, catS_l, Nat.reduceLeDiff, j1eq1, n21, jt0, jt1, Bool.false_eq_true, Classical.not_not, true_or, or_true, false_or, or_false, true_imp_iff, false_imp_iff, not_true_eq_false, not_false_eq_true, jif0, jif1, jifb, ltT, ltF, leT, leF, eqT, eqF, jlt, jle, jeq, jlt0, jle0, jeq0, jge0, jgt0, jinB, jnat, clt, cle, ceq, cgt, cge, lI_add, lI_sub, lI_mul, jadd, jsub, jmul, jneg, jtol, b010, b011, pv_2t, Int.toNat_natCast, Option.some.injEq, exists_eq_left', if_true, if_false]
      refine vs_ok 7 ?_
      rw [show ((gRes 263).drop 5).take 7 = [.aload 0, .getfield 12482, .iload 3, .iconst 0, .iastore, .iinc 3 1, .goto 2] from rfl]
      simp (disch := omega) only [vs_iconst, vs_goto, vs_getfield, vs_iastore, vs_aload0, vs_iload3, vs_iinc3n, vs_iinc3i, vs_iinc3r, vs_iinc3l, vs_nil, gv_0, gv_1, gv_2, gv_3, pv_0, pv_1, va_rf_s, Nat.reduceDiv, Nat.reduceMod, Nat.reduceAdd, Nat.reduceMul, Int.reduceToNat, true_and, and_true, and_self, cP_eq, cP_ne, cP_lt, cP_ge, cP_gt, cP_le, eL_i, eL_l, eL_r, eL_n, Option.toList_none, Option.toList_some, List.nil_append, List.cons_append, kkI, llI, nnI, rrI, jjI, kkJ, llJ, nnJ, rrJ, iiJ, zIIs, zJJs, nEF, nET, and_false, false_and, jmin, jmax, catS_n, catS_i, catS_r, catS_l, Nat.reduceLeDiff, j1eq1, n21, jt0, jt1, Bool.false_eq_true, Classical.not_not, true_or, or_true, false_or, or_false, true_imp_iff, false_imp_iff, not_true_eq_false, not_false_eq_true, jif0, jif1, jifb, ltT, ltF, leT, leF, eqT, eqF, jlt, jle, jeq, jlt0, jle0, jeq0, jge0, jgt0, jinB, jnat, clt, cle, ceq, cgt, cge, lI_add, lI_sub, lI_mul, jadd, jsub, jmul, jneg, jtol, b010, b011, pv_2t, Int.toNat_natCast, Option.some.injEq, exists_eq_left', if_true, if_false, Mg, A30]
      refine ih (i + 1) _ (by omega) (fg.I (Or.inl rfl)) fun q hq => ?_
      rw [zI_s]
      by_cases y : q = i
      · rw [if_pos ⟨rfl, y⟩]
      · rw [if_neg fun z => y z.2]
        exact hC q (by omega)
  refine vs_ok 2 ?_
  rw [show ((gRes 263).drop 0).take 2 = [.iconst 0, .istore 3] from rfl]
  simp (disch := omega) only [vs_iconst, vs_istore3n, vs_istore3i, vs_istore3r, vs_istore3l, vs_nil, gv_0, gv_1, gv_2, gv_3, pv_0, pv_1, va_rf_s, Nat.reduceDiv, Nat.reduceMod, Nat.reduceAdd, Nat.reduceMul, Int.reduceToNat, true_and, and_true, and_self, cP_eq, cP_ne, cP_lt, cP_ge, cP_gt, cP_le, eL_i, eL_l, eL_r, eL_n, Option.toList_none, Option.toList_some, List.nil_append, List.cons_append, kkI, llI, nnI, rrI, jjI, kkJ, llJ, nnJ, rrJ, iiJ, zIIs, zJJs, nEF, nET, and_false, false_and, jmin, jmax, catS_n, catS_i, catS_r, catS_l, Nat.reduceLeDiff, j1eq1, n21, jt0, jt1, Bool.false_eq_true, Classical.not_not, true_or, or_true, false_or, or_false, true_imp_iff, false_imp_iff, not_true_eq_false, not_false_eq_true, jif0, jif1, jifb, ltT, ltF, leT, leF, eqT, eqF, jlt, jle, jeq, jlt0, jle0, jeq0, jge0, jgt0, jinB, jnat, clt, cle, ceq, cgt, cge, lI_add, lI_sub, lI_mul, jadd, jsub, jmul, jneg, jtol, b010, b011, pv_2t, Int.toNat_natCast, Option.some.injEq, exists_eq_left', if_true, if_false]
  exact l2 4 0 h rfl fi.rf fun q hq => absurd hq (by omega)
