/-! Net: firstAtSteps, layRing, seekRing -/
theorem fB_some {p : Nat → Bool} : ∀ {k i q : Nat}, fB p k i = some q → i ≤ q ∧ q < i + k ∧ p q = true ∧ ∀ j, i ≤ j → j < q → p j = false
  | 0, _, _, h => by cases h
  | k + 1, i, q, h => by
    unfold fB at h
    by_cases c : p i = true
    · rw [if_pos c] at h
      cases h
      exact ⟨Nat.le_refl _, by omega, c, fun j h1 h2 => absurd h2 (by omega)⟩
    · rw [if_neg c] at h
      obtain ⟨a, b, e, f⟩ := fB_some h
      refine ⟨by omega, by omega, e, fun j h1 h2 => ?_⟩
      by_cases z : j = i
      · subst z
        exact Bool.eq_false_iff.mpr c
      · exact f j (by omega) h2
theorem fB_none {p : Nat → Bool} : ∀ {k i : Nat}, fB p k i = none → ∀ j, i ≤ j → j < i + k → p j = false
  | 0, _, _, j, h1, h2 => absurd h2 (by omega)
  | k + 1, i, h, j, h1, h2 => by
    unfold fB at h
    by_cases c : p i = true
    · rw [if_pos c] at h
      cases h
    · rw [if_neg c] at h
      by_cases z : j = i
      · subst z
        exact Bool.eq_false_iff.mpr c
      · exact fB_none h j (by omega) (by omega)
abbrev faP (bt st : Nat → Nat) (fr0 w : Nat) : Nat → Bool := fun v => (bt fr0).testBit v && st v == w
theorem t_firstAtSteps {d : Nat} {h : Hp} {x nm fr0 w : Nat} {bt st : Nat → Nat} {Q : Nat → Option Value → Hp → Prop} (hn : netC h x nm bt) (hf : fr0 < nm) (hw : w ≤ 100) (hst : ∀ i, i < 12 → st i ≤ 100 ∧ zI h (x + 2) i = iI (st i)) (hq : Q 0 (some (.int (iI ((fB (faP bt st fr0 w) nm 0).getD 0 : Nat)))) h) : PR (d + 2) m_Net_firstAtSteps [.ref x, .int (iI fr0), .int (iI w)] h Q := by
  obtain ⟨ho, hnm, h4, hb4⟩ := id hn
  show PW (d + 2) 40 0 [some (.ref x), some (.int (iI fr0)), some (.int (iI w)), none] [] h Q
  have lp : ∀ (k v : Nat), k + v = nm → fB (faP bt st fr0 w) k v = fB (faP bt st fr0 w) nm 0 → PW (d + 2) 40 2 [some (.ref x), some (.int (iI fr0)), some (.int (iI w)), some (.int (iI v))] [] h Q := by
    intro k
    induction k with
    | zero =>
      intro v hk hF
      rw [← hF] at hq
      refine vs_ok 4 ?_
      rw [show ((gRes 40).drop 2).take 4 = [.iload 3, .aload 0, .getfield 3040, .if_icmp .ge 21] from rfl]
      simp (disch := omega) only [vs_if_icmp, vs_getfield, vs_aload0, vs_iload3, vs_nil, gv_0, gv_1, gv_2, gv_3, pv_0, pv_1, va_rf_s, Nat.reduceDiv, Nat.reduceMod, Nat.reduceAdd, Nat.reduceMul, Int.reduceToNat, true_and, and_true, and_self, cP_eq, cP_ne, cP_lt, cP_ge, cP_gt, cP_le, eL_i, eL_l, eL_r, eL_n, Option.toList_none, Option.toList_some, List.nil_append, List.cons_append, kkI, llI, nnI, rrI, jjI, kkJ, llJ, nnJ, rrJ, iiJ, zIIs, zJJs, nEF, nET, and_false, false_and, jmin, jmax, catS_n, catS_i, catS_r, catS_l, Nat.reduceLeDiff, j1eq1, n21, jt0, jt1, Bool.false_eq_true, Classical.not_not, true_or, or_true, false_or, or_false, true_imp_iff, false_imp_iff, not_true_eq_false, not_false_eq_true, jif0, jif1, jifb, ltT, ltF, leT, leF, eqT, eqF, jlt, jle, jeq, jlt0, jle0, jeq0, jge0, jgt0, jinB, jnat, clt, cle, ceq, cgt, cge, lI_add, lI_sub, lI_mul, jadd, jsub, jmul, jneg, jtol, b010, b011, pv_2t, Int.toNat_natCast, Option.some.injEq, exists_eq_left', if_true, if_false, nF ho, h4]
      refine vs_ok 2 ?_
      rw [show ((gRes 40).drop 21).take 2 = [.iconst 0, .ireturn] from rfl]
      simp (disch := omega) only [vs_iconst, vs_ireturn, vs_nil, gv_0, gv_1, gv_2, gv_3, pv_0, pv_1, va_rf_s, Nat.reduceDiv, Nat.reduceMod, Nat.reduceAdd, Nat.reduceMul, Int.reduceToNat, true_and, and_true, and_self, cP_eq, cP_ne, cP_lt, cP_ge, cP_gt, cP_le, eL_i, eL_l, eL_r, eL_n, Option.toList_none, Option.toList_some, List.nil_append, List.cons_append, kkI, llI, nnI, rrI, jjI, kkJ, llJ, nnJ, rrJ, iiJ, zIIs, zJJs, nEF, nET, and_false, false_and, jmin, jmax, catS_n, catS_i, catS_r, catS_l, Nat.reduceLeDiff, j1eq1, n21, jt0, jt1, Bool.false_eq_true, Classical.not_not, true_or, or_true, false_or, or_false, true_imp_iff, false_imp_iff, not_true_eq_false, not_false_eq_true, jif0, jif1, jifb, ltT, ltF, leT, leF, eqT, eqF, jlt, jle, jeq, jlt0, jle0, jeq0, jge0, jgt0, jinB, jnat, clt, cle, ceq, cgt, cge, lI_add, lI_sub, lI_mul, jadd, jsub, jmul, jneg, jtol, b010, b011, pv_2t, Int.toNat_natCast, Option.some.injEq, exists_eq_left', if_true, if_false, show gRc 40 = 1 from rfl]
      exact hq
    | succ k ih =>
      intro v hk hF
      have ef : fB (faP bt st fr0 w) (k + 1) v = if ((bt fr0).testBit v && st v == w) = true then some v else fB (faP bt st fr0 w) k (v + 1) := rfl
      have no : ¬ ((bt fr0).testBit v && st v == w) = true → PW (d + 2) 40 19 [some (.ref x), some (.int (iI fr0)), some (.int (iI w)), some (.int (iI v))] [] h Q := fun c => by
        rw [if_neg c] at ef
        refine vs_ok 2 ?_
        rw [show ((gRes 40).drop 19).take 2 = [.iinc 3 1, .goto 2] from rfl]
        simp (disch := omega) only [vs_goto, vs_iinc3n, vs_iinc3i, vs_iinc3r, vs_iinc3l, vs_nil, gv_0, gv_1, gv_2, gv_3, pv_0, pv_1, va_rf_s, Nat.reduceDiv, Nat.reduceMod, Nat.reduceAdd, Nat.reduceMul, Int.reduceToNat, true_and, and_true, and_self, cP_eq, cP_ne, cP_lt, cP_ge, cP_gt, cP_le, eL_i, eL_l, eL_r, eL_n, Option.toList_none, Option.toList_some, List.nil_append, List.cons_append, kkI, llI, nnI, rrI, jjI, kkJ, llJ, nnJ, rrJ, iiJ, zIIs, zJJs, nEF, nET, and_false, false_and, jmin, jmax, catS_n, catS_i, catS_r, catS_l, Nat.reduceLeDiff, j1eq1, n21, jt0, jt1, Bool.false_eq_true, Classical.not_not, true_or, or_true, false_or, or_false, true_imp_iff, false_imp_iff, not_true_eq_false, not_false_eq_true, jif0, jif1, jifb, ltT, ltF, leT, leF, eqT, eqF, jlt, jle, jeq, jlt0, jle0, jeq0, jge0, jgt0, jinB, jnat, clt, cle, ceq, cgt, cge, lI_add, lI_sub, lI_mul, jadd, jsub, jmul, jneg, jtol, b010, b011, pv_2t, Int.toNat_natCast, Option.some.injEq, exists_eq_left', if_true, if_false]
        exact ih (v + 1) (by omega) (ef ▸ hF)
      refine vs_ok 7 ?_
      rw [show ((gRes 40).drop 2).take 7 = [.iload 3, .aload 0, .getfield 3040, .if_icmp .ge 21, .aload 0, .iload 1, .iload 3] from rfl]
      simp (disch := omega) only [vs_if_icmp, vs_getfield, vs_aload0, vs_iload1, vs_iload3, vs_nil, gv_0, gv_1, gv_2, gv_3, pv_0, pv_1, va_rf_s, Nat.reduceDiv, Nat.reduceMod, Nat.reduceAdd, Nat.reduceMul, Int.reduceToNat, true_and, and_true, and_self, cP_eq, cP_ne, cP_lt, cP_ge, cP_gt, cP_le, eL_i, eL_l, eL_r, eL_n, Option.toList_none, Option.toList_some, List.nil_append, List.cons_append, kkI, llI, nnI, rrI, jjI, kkJ, llJ, nnJ, rrJ, iiJ, zIIs, zJJs, nEF, nET, and_false, false_and, jmin, jmax, catS_n, catS_i, catS_r, catS_l, Nat.reduceLeDiff, j1eq1, n21, jt0, jt1, Bool.false_eq_true, Classical.not_not, true_or, or_true, false_or, or_false, true_imp_iff, false_imp_iff, not_true_eq_false, not_false_eq_true, jif0, jif1, jifb, ltT, ltF, leT, leF, eqT, eqF, jlt, jle, jeq, jlt0, jle0, jeq0, jge0, jgt0, jinB, jnat, clt, cle, ceq, cgt, cge, lI_add, lI_sub, lI_mul, jadd, jsub, jmul, jneg, jtol, b010, b011, pv_2t, Int.toNat_natCast, Option.some.injEq, exists_eq_left', if_true, if_false, nF ho, h4]
      refine PW.iv rfl rfl rfl (nF ho).1.1 (nF ho).1.2 (le_b rfl) (le_b rfl) ?_
      refine t_isAbove hn hf (by omega) ⟨rfl, ⟨rfl, rfl⟩, ?_⟩
      obtain ⟨s1, s2⟩ := hst v (by omega)
      by_cases c1 : (bt fr0).testBit v = true
      · by_cases c2 : st v = w
        · rw [if_pos (by rw [c1, c2]; simp)] at ef
          rw [← hF, ef] at hq
          refine vs_ok 9 ?_
          rw [show ((gRes 40).drop 10).take 9 = [.ifCond .eq 19, .aload 0, .getfield 3012, .iload 3, .iaload, .iload 2, .if_icmp .ne 19, .iload 3, .ireturn] from rfl]
          simp (disch := omega) only [vs_if_icmp, vs_ifCond, vs_getfield, vs_iaload, vs_ireturn, vs_aload0, vs_iload2, vs_iload3, vs_nil, gv_0, gv_1, gv_2, gv_3, pv_0, pv_1, va_rf_s, Nat.reduceDiv, Nat.reduceMod, Nat.reduceAdd, Nat.reduceMul, Int.reduceToNat, true_and, and_true, and_self, cP_eq, cP_ne, cP_lt, cP_ge, cP_gt, cP_le, eL_i, eL_l, eL_r, eL_n, Option.toList_none, Option.toList_some, List.nil_append, List.cons_append, kkI, llI, nnI, rrI, jjI, kkJ, llJ, nnJ, rrJ, iiJ, zIIs, zJJs, nEF, nET, and_false, false_and, jmin, jmax, catS_n, catS_i, catS_r, catS_l, Nat.reduceLeDiff, j1eq1, n21, jt0, jt1, Bool.false_eq_true, Classical.not_not, true_or, or_true, false_or, or_false, true_imp_iff, false_imp_iff, not_true_eq_false, not_false_eq_true, jif0, jif1, jifb, ltT, ltF, leT, leF, eqT, eqF, jlt, jle, jeq, jlt0, jle0, jeq0, jge0, jgt0, jinB, jnat, clt, cle, ceq, cgt, cge, lI_add, lI_sub, lI_mul, jadd, jsub, jmul, jneg, jtol, b010, b011, pv_2t, Int.toNat_natCast, Option.some.injEq, exists_eq_left', if_true, if_false, nF ho, c1, s2, show gRc 40 = 1 from rfl]
          exact hq
        · refine vs_ok 9 ?_
          rw [show ((gRes 40).drop 10).take 9 = [.ifCond .eq 19, .aload 0, .getfield 3012, .iload 3, .iaload, .iload 2, .if_icmp .ne 19, .iload 3, .ireturn] from rfl]
          simp (disch := omega) only [vs_if_icmp, vs_ifCond, vs_getfield, vs_iaload, vs_ireturn, vs_aload0, vs_iload2, vs_iload3, vs_nil, gv_0, gv_1, gv_2, gv_3, pv_0, pv_1, va_rf_s, Nat.reduceDiv, Nat.reduceMod, Nat.reduceAdd, Nat.reduceMul, Int.reduceToNat, true_and, and_true, and_self, cP_eq, cP_ne, cP_lt, cP_ge, cP_gt, cP_le, eL_i, eL_l, eL_r, eL_n, Option.toList_none, Option.toList_some, List.nil_append, List.cons_append, kkI, llI, nnI, rrI, jjI, kkJ, llJ, nnJ, rrJ, iiJ, zIIs, zJJs, nEF, nET, and_false, false_and, jmin, jmax, catS_n, catS_i, catS_r, catS_l, Nat.reduceLeDiff, j1eq1, n21, jt0, jt1, Bool.false_eq_true, Classical.not_not, true_or, or_true, false_or, or_false, true_imp_iff, false_imp_iff, not_true_eq_false, not_false_eq_true, jif0, jif1, jifb, ltT, ltF, leT, leF, eqT, eqF, jlt, jle, jeq, jlt0, jle0, jeq0, jge0, jgt0, jinB, jnat, clt, cle, ceq, cgt, cge, lI_add, lI_sub, lI_mul, jadd, jsub, jmul, jneg, jtol, b010, b011, pv_2t, Int.toNat_natCast, Option.some.injEq, exists_eq_left', if_true, if_false, nF ho, c1, s2, show gRc 40 = 1 from rfl]
          exact no fun z => c2 (by simpa [c1] using z)
      · refine vs_ok 1 ?_
        rw [show ((gRes 40).drop 10).take 1 = [.ifCond .eq 19] from rfl]
        simp (disch := omega) only [vs_ifCond, vs_nil, gv_0, gv_1, gv_2, gv_3, pv_0, pv_1, va_rf_s, Nat.reduceDiv, Nat.reduceMod, Nat.reduceAdd, Nat.reduceMul, Int.reduceToNat, true_and, and_true, and_self, cP_eq, cP_ne, cP_lt, cP_ge, cP_gt, cP_le, eL_i, eL_l, eL_r, eL_n, Option.toList_none, Option.toList_some, List.nil_append, List.cons_append, kkI, llI, nnI, rrI, jjI, kkJ, llJ, nnJ, rrJ, iiJ, zIIs, zJJs, nEF, nET, and_false, false_and, jmin, jmax, catS_n, catS_i, catS_r, catS_l, Nat.reduceLeDiff, j1eq1, n21, jt0, jt1, Bool.false_eq_true, Classical.not_not, true_or, or_true, false_or, or_false, true_imp_iff, false_imp_iff, not_true_eq_false, not_false_eq_true, jif0, jif1, jifb, ltT, ltF, leT, leF, eqT, eqF, jlt, jle, jeq, jlt0, jle0, jeq0, jge0, jgt0, jinB, jnat, clt, cle, ceq, cgt, cge, lI_add, lI_sub, lI_mul, jadd, jsub, jmul, jneg, jtol, b010, b011, pv_2t, Int.toNat_natCast, Option.some.injEq, exists_eq_left', if_true, if_false, c1]
        exact no fun z => c1 (by simp at z; exact z.1)
  refine vs_ok 2 ?_
  rw [show ((gRes 40).drop 0).take 2 = [.iconst 0, .istore 3] from rfl]
  simp (disch := omega) only [vs_iconst, vs_istore3n, vs_istore3i, vs_istore3r, vs_istore3l, vs_nil, gv_0, gv_1, gv_2, gv_3, pv_0, pv_1, va_rf_s, Nat.reduceDiv, Nat.reduceMod, Nat.reduceAdd, Nat.reduceMul, Int.reduceToNat, true_and, and_true, and_self, cP_eq, cP_ne, cP_lt, cP_ge, cP_gt, cP_le, eL_i, eL_l, eL_r, eL_n, Option.toList_none, Option.toList_some, List.nil_append, List.cons_append, kkI, llI, nnI, rrI, jjI, kkJ, llJ, nnJ, rrJ, iiJ, zIIs, zJJs, nEF, nET, and_false, false_and, jmin, jmax, catS_n, catS_i, catS_r, catS_l, Nat.reduceLeDiff, j1eq1, n21, jt0, jt1, Bool.false_eq_true, Classical.not_not, true_or, or_true, false_or, or_false, true_imp_iff, false_imp_iff, not_true_eq_false, not_false_eq_true, jif0, jif1, jifb, ltT, ltF, leT, leF, eqT, eqF, jlt, jle, jeq, jlt0, jle0, jeq0, jge0, jgt0, jinB, jnat, clt, cle, ceq, cgt, cge, lI_add, lI_sub, lI_mul, jadd, jsub, jmul, jneg, jtol, b010, b011, pv_2t, Int.toNat_natCast, Option.some.injEq, exists_eq_left', if_true, if_false]
  exact lp nm 0 (by omega) rfl
def lrF (bt st : Nat → Nat) (nm len s : Nat) : Nat → Nat
  | 0 => s
  | i + 1 => (fB (faP bt st (lrF bt st nm len s i) (len - (i + 1))) nm 0).getD 0
theorem lrF_lt {bt st : Nat → Nat} {nm len s : Nat} (hs : s < nm) : ∀ i, lrF bt st nm len s i < nm
  | 0 => hs
  | i + 1 => by
    show (fB (faP bt st (lrF bt st nm len s i) (len - (i + 1))) nm 0).getD 0 < nm
    cases e : fB (faP bt st (lrF bt st nm len s i) (len - (i + 1))) nm 0 with
    | none => exact (by omega : 0 < nm)
    | some q =>
      have := fB_some e
      show q < nm
      omega
theorem t_layRing {d : Nat} {h : Hp} {x nm s len : Nat} {bt st : Nat → Nat} {Q : Nat → Option Value → Hp → Prop} (hn : netC h x nm bt) (hs : s < nm) (hl : 1 ≤ len ∧ len ≤ 12) (hst : ∀ i, i < 12 → st i ≤ 100 ∧ zI h (x + 2) i = iI (st i))
    (hq : ∀ h', fi (fun q => q = x ∨ q = x + 3) h h' → zI h' x 4 = zI h x 4 → zI h' x 3 = iI len → (∀ i, i < len → zI h' (x + 3) i = iI (lrF bt st nm len s i)) → Q 0 none h') : PR (d + 3) m_Net_layRing [.ref x, .int (iI s), .int (iI len)] h Q := by
  obtain ⟨ho, hnm, h4, hb4⟩ := id hn
  show PW (d + 3) 39 0 [some (.ref x), some (.int (iI s)), some (.int (iI len)), none, none] [] h Q
  have lp : ∀ (k i : Nat) (g : Hp), k + i = len → 1 ≤ i → fi (fun q => q = x + 3) h g → (∀ j, j < i → zI g (x + 3) j = iI (lrF bt st nm len s j)) → PW (d + 3) 39 9 [some (.ref x), some (.int (iI s)), some (.int (iI len)), some (.int (iI (lrF bt st nm len s (i - 1)))), some (.int (iI i))] [] g Q := by
    intro k
    induction k with
    | zero =>
      intro i g hk hi f hI
      have e : i = len := by omega
      subst e
      have gn := hn.fi f (by rw [f.1.2.2.2.2.2.1 x (by omega)]) (by omega)
      refine vs_ok 3 ?_
      rw [show ((gRes 39).drop 9).take 3 = [.iload 4, .iload 2, .if_icmp .ge 31] from rfl]
      simp (disch := omega) only [vs_if_icmp, vs_iload2, vs_iload4, vs_nil, gv_0, gv_1, gv_2, gv_3, pv_0, pv_1, va_rf_s, Nat.reduceDiv, Nat.reduceMod, Nat.reduceAdd, Nat.reduceMul, Int.reduceToNat, true_and, and_true, and_self, cP_eq, cP_ne, cP_lt, cP_ge, cP_gt, cP_le, eL_i, eL_l, eL_r, eL_n, Option.toList_none, Option.toList_some, List.nil_append, List.cons_append, kkI, llI, nnI, rrI, jjI, kkJ, llJ, nnJ, rrJ, iiJ, zIIs, zJJs, nEF, nET, and_false, false_and, jmin, jmax, catS_n, catS_i, catS_r, catS_l, Nat.reduceLeDiff, j1eq1, n21, jt0, jt1, Bool.false_eq_true, Classical.not_not, true_or, or_true, false_or, or_false, true_imp_iff, false_imp_iff, not_true_eq_false, not_false_eq_true, jif0, jif1, jifb, ltT, ltF, leT, leF, eqT, eqF, jlt, jle, jeq, jlt0, jle0, jeq0, jge0, jgt0, jinB, jnat, clt, cle, ceq, cgt, cge, lI_add, lI_sub, lI_mul, jadd, jsub, jmul, jneg, jtol, b010, b011, pv_2t, Int.toNat_natCast, Option.some.injEq, exists_eq_left', if_true, if_false]
      refine vs_ok 4 ?_
      rw [show ((gRes 39).drop 31).take 4 = [.aload 0, .iload 2, .putfield 3030, .return_] from rfl]
      simp (disch := omega) only [vs_putfield, vs_return_, vs_aload0, vs_iload2, vs_nil, gv_0, gv_1, gv_2, gv_3, pv_0, pv_1, va_rf_s, Nat.reduceDiv, Nat.reduceMod, Nat.reduceAdd, Nat.reduceMul, Int.reduceToNat, true_and, and_true, and_self, cP_eq, cP_ne, cP_lt, cP_ge, cP_gt, cP_le, eL_i, eL_l, eL_r, eL_n, Option.toList_none, Option.toList_some, List.nil_append, List.cons_append, kkI, llI, nnI, rrI, jjI, kkJ, llJ, nnJ, rrJ, iiJ, zIIs, zJJs, nEF, nET, and_false, false_and, jmin, jmax, catS_n, catS_i, catS_r, catS_l, Nat.reduceLeDiff, j1eq1, n21, jt0, jt1, Bool.false_eq_true, Classical.not_not, true_or, or_true, false_or, or_false, true_imp_iff, false_imp_iff, not_true_eq_false, not_false_eq_true, jif0, jif1, jifb, ltT, ltF, leT, leF, eqT, eqF, jlt, jle, jeq, jlt0, jle0, jeq0, jge0, jgt0, jinB, jnat, clt, cle, ceq, cgt, cge, lI_add, lI_sub, lI_mul, jadd, jsub, jmul, jneg, jtol, b010, b011, pv_2t, Int.toNat_natCast, Option.some.injEq, exists_eq_left', if_true, if_false, nF gn.1, show gRc 39 = 0 from rfl]
      refine hq _ ((f.wk fun q z => Or.inr z).I (Or.inl rfl)) ?_ ?_ fun j hj => ?_
      · rw [zI_s, if_neg (by omega), gn.2.2.1, h4]
      · rw [zI_s, if_pos ⟨rfl, rfl⟩]
      · rw [zI_s, if_neg (by omega), hI j hj]
    | succ k ih =>
      intro i g hk hi f hI
      have gn := hn.fi f (by rw [f.1.2.2.2.2.2.1 x (by omega)]) (by omega)
      refine vs_ok 13 ?_
      rw [show ((gRes 39).drop 9).take 13 = [.iload 4, .iload 2, .if_icmp .ge 31, .iload 4, .aload 0, .getfield 3022, .arraylength, .if_icmp .ge 31, .aload 0, .iload 3, .iload 2, .iload 4, .isub] from rfl]
      simp (disch := omega) only [vs_isub, vs_if_icmp, vs_getfield, vs_arraylength, vs_aload0, vs_iload2, vs_iload3, vs_iload4, vs_nil, gv_0, gv_1, gv_2, gv_3, pv_0, pv_1, va_rf_s, Nat.reduceDiv, Nat.reduceMod, Nat.reduceAdd, Nat.reduceMul, Int.reduceToNat, true_and, and_true, and_self, cP_eq, cP_ne, cP_lt, cP_ge, cP_gt, cP_le, eL_i, eL_l, eL_r, eL_n, Option.toList_none, Option.toList_some, List.nil_append, List.cons_append, kkI, llI, nnI, rrI, jjI, kkJ, llJ, nnJ, rrJ, iiJ, zIIs, zJJs, nEF, nET, and_false, false_and, jmin, jmax, catS_n, catS_i, catS_r, catS_l, Nat.reduceLeDiff, j1eq1, n21, jt0, jt1, Bool.false_eq_true, Classical.not_not, true_or, or_true, false_or, or_false, true_imp_iff, false_imp_iff, not_true_eq_false, not_false_eq_true, jif0, jif1, jifb, ltT, ltF, leT, leF, eqT, eqF, jlt, jle, jeq, jlt0, jle0, jeq0, jge0, jgt0, jinB, jnat, clt, cle, ceq, cgt, cge, lI_add, lI_sub, lI_mul, jadd, jsub, jmul, jneg, jtol, b010, b011, pv_2t, Int.toNat_natCast, Option.some.injEq, exists_eq_left', if_true, if_false, nF gn.1, or_true, true_or, of12]
      rw [show ((len : Nat) : Int) - (i : Int) = ((len - i : Nat) : Int) by omega]
      refine PW.iv rfl rfl rfl (nF gn.1).1.1 (nF gn.1).1.2 (le_b rfl) (le_b rfl) ?_
      refine t_firstAtSteps gn (lrF_lt hs (i - 1)) (w := len - i) (by omega) (fun j hj => ⟨(hst j hj).1, by rw [f.1.2.2.2.2.2.1 (x + 2) (by omega)]; exact (hst j hj).2⟩) ⟨rfl, ⟨rfl, rfl⟩, ?_⟩
      have e1 : (fB (faP bt st (lrF bt st nm len s (i - 1)) (len - i)) nm 0).getD 0 = lrF bt st nm len s i := by
        obtain ⟨j, rfl⟩ : ∃ j, i = j + 1 := ⟨i - 1, by omega⟩
        rfl
      rw [e1]
      refine vs_ok 8 ?_
      rw [show ((gRes 39).drop 23).take 8 = [.istore 3, .aload 0, .getfield 3022, .iload 4, .iload 3, .iastore, .iinc 4 1, .goto 9] from rfl]
      simp (disch := omega) only [vs_goto, vs_getfield, vs_iastore, vs_aload0, vs_iload3, vs_istore3n, vs_istore3i, vs_istore3r, vs_istore3l, vs_iload4, vs_iinc4n, vs_iinc4i, vs_iinc4r, vs_iinc4l, vs_nil, gv_0, gv_1, gv_2, gv_3, pv_0, pv_1, va_rf_s, Nat.reduceDiv, Nat.reduceMod, Nat.reduceAdd, Nat.reduceMul, Int.reduceToNat, true_and, and_true, and_self, cP_eq, cP_ne, cP_lt, cP_ge, cP_gt, cP_le, eL_i, eL_l, eL_r, eL_n, Option.toList_none, Option.toList_some, List.nil_append, List.cons_append, kkI, llI, nnI, rrI, jjI, kkJ, llJ, nnJ, rrJ, iiJ, zIIs, zJJs, nEF, nET, and_false, false_and, jmin, jmax, catS_n, catS_i, catS_r, catS_l, Nat.reduceLeDiff, j1eq1, n21, jt0, jt1, Bool.false_eq_true, Classical.not_not, true_or, or_true, false_or, or_false, true_imp_iff, false_imp_iff, not_true_eq_false, not_false_eq_true, jif0, jif1, jifb, ltT, ltF, leT, leF, eqT, eqF, jlt, jle, jeq, jlt0, jle0, jeq0, jge0, jgt0, jinB, jnat, clt, cle, ceq, cgt, cge, lI_add, lI_sub, lI_mul, jadd, jsub, jmul, jneg, jtol, b010, b011, pv_2t, Int.toNat_natCast, Option.some.injEq, exists_eq_left', if_true, if_false, nF gn.1]
      refine ih (i + 1) _ (by omega) (by omega) (f.I rfl) fun j hj => ?_
      rw [zI_s]
      by_cases c : j = i
      · rw [if_pos ⟨rfl, c⟩, c]
      · rw [if_neg (fun z => c z.2), hI j (by omega)]
  refine vs_ok 9 ?_
  rw [show ((gRes 39).drop 0).take 9 = [.iload 1, .istore 3, .aload 0, .getfield 3022, .iconst 0, .iload 1, .iastore, .iconst 1, .istore 4] from rfl]
  simp (disch := omega) only [vs_iconst, vs_getfield, vs_iastore, vs_aload0, vs_iload1, vs_istore3n, vs_istore3i, vs_istore3r, vs_istore3l, vs_istore4n, vs_istore4i, vs_istore4r, vs_istore4l, vs_nil, gv_0, gv_1, gv_2, gv_3, pv_0, pv_1, va_rf_s, Nat.reduceDiv, Nat.reduceMod, Nat.reduceAdd, Nat.reduceMul, Int.reduceToNat, true_and, and_true, and_self, cP_eq, cP_ne, cP_lt, cP_ge, cP_gt, cP_le, eL_i, eL_l, eL_r, eL_n, Option.toList_none, Option.toList_some, List.nil_append, List.cons_append, kkI, llI, nnI, rrI, jjI, kkJ, llJ, nnJ, rrJ, iiJ, zIIs, zJJs, nEF, nET, and_false, false_and, jmin, jmax, catS_n, catS_i, catS_r, catS_l, Nat.reduceLeDiff, j1eq1, n21, jt0, jt1, Bool.false_eq_true, Classical.not_not, true_or, or_true, false_or, or_false, true_imp_iff, false_imp_iff, not_true_eq_false, not_false_eq_true, jif0, jif1, jifb, ltT, ltF, leT, leF, eqT, eqF, jlt, jle, jeq, jlt0, jle0, jeq0, jge0, jgt0, jinB, jnat, clt, cle, ceq, cgt, cge, lI_add, lI_sub, lI_mul, jadd, jsub, jmul, jneg, jtol, b010, b011, pv_2t, Int.toNat_natCast, Option.some.injEq, exists_eq_left', if_true, if_false, nF ho]
  refine lp (len - 1) 1 _ (by omega) (by omega) (fi_I rfl) fun j hj => ?_
  have e : j = 0 := by omega
  subst e
  rw [zI_s, if_pos ⟨rfl, rfl⟩]
  rfl
def srF (bt : Nat → Nat) (nm : Nat) : Nat → Nat → Nat × Nat → Nat × Nat
  | 0, _, b => b
  | k + 1, s, b => srF bt nm k (s + 1) (if 0 < (wbF bt nm s).1 ∧ (b.1 = 0 ∨ (wbF bt nm s).1 < b.1) then ((wbF bt nm s).1, s) else b)
theorem wbO_le {bt : Nat → Nat} {nm s : Nat} : ∀ (f k e : Nat) (st : Nat → Nat), f + k = nm → (wbO bt nm s f k e st).1 ≤ nm
  | 0, _, _, _, _ => Nat.zero_le _
  | f + 1, k, e, st, h => by
    unfold wbO
    split
    · exact Nat.zero_le _
    · split
      · show k + 1 ≤ nm
        omega
      · exact wbO_le f (k + 1) _ _ (by omega)
theorem wbO_st {bt : Nat → Nat} {nm s : Nat} (hn : nm ≤ 12) (hs : s < nm) : ∀ (f k e : Nat) (st : Nat → Nat), f + k = nm → (∀ i, st i ≤ 12) → ∀ i, (wbO bt nm s f k e st).2 i ≤ 12
  | 0, _, _, _, _, h2 => h2
  | f + 1, k, e, st, h, h2 => by
    have hw := (wbI_lt (bt := bt) (edge := e) (k := k) (by omega) (nm - (s + 1)) (s + 1) st 0 (by omega) (by omega) h2).2
    unfold wbO
    split
    · exact h2
    · split
      · exact hw
      · exact wbO_st hn hs f (k + 1) _ _ (by omega) hw
abbrev rgF (bt : Nat → Nat) (nm : Nat) : Nat × Nat := srF bt nm nm 0 (0, 0)
theorem t_seekRing {d : Nat} {h : Hp} {x nm : Nat} {bt : Nat → Nat} {Q : Nat → Option Value → Hp → Prop} (hn : netC h x nm bt)
    (hq0 : (rgF bt nm).1 = 0 → ∀ h', fi (fun q => q = x + 2) h h' → Q 0 (some (.int (iI (-1)))) h')
    (hq1 : (rgF bt nm).1 ≠ 0 → ∀ h', fi (fun q => q = x ∨ q = x + 2 ∨ q = x + 3) h h' → zI h' x 4 = zI h x 4 → zI h' x 3 = iI (rgF bt nm).1 → (∀ i, i < (rgF bt nm).1 → zI h' (x + 3) i = iI (lrF bt (wbF bt nm (rgF bt nm).2).2 nm (rgF bt nm).1 (rgF bt nm).2 i)) → Q 0 (some (.int (iI (rgF bt nm).1))) h') : PR (d + 4) m_Net_seekRing [.ref x] h Q := by
  obtain ⟨ho, hnm, h4, hb4⟩ := id hn
  show PW (d + 4) 37 0 [some (.ref x), none, none, none, none] [] h Q
  have nx : ¬ x = x + 2 := by omega
  have ny : ¬ x + 1 = x + 2 := by omega
  have kn : ∀ g, fi (fun q => q = x + 2) h g → netC g x nm bt := fun g f => hn.fi f (by rw [f.1.2.2.2.2.2.1 x nx]) ny
  have lp : ∀ (k s : Nat) (b : Nat × Nat) (g : Hp) (o4 : Option Value), k + s = nm → b.1 ≤ nm → (b.1 ≠ 0 → b.2 < nm) → fi (fun q => q = x + 2) h g → srF bt nm k s b = rgF bt nm → PW (d + 4) 37 6 [some (.ref x), some (.int (iI b.1)), some (.int (iI b.2)), some (.int (iI s)), o4] [] g Q := by
    intro k
    induction k with
    | zero =>
      intro s b g o4 hk hb1 hb2 f hF
      have gn := kn g f
      rw [← hF] at hq0 hq1
      obtain ⟨b1, b2⟩ := b
      dsimp only at hb1 hb2
      change b1 = 0 → _ at hq0
      change b1 ≠ 0 → _ at hq1
      by_cases c : b1 = 0
      · refine vs_ok 4 ?_
        rw [show ((gRes 37).drop 6).take 4 = [.iload 3, .aload 0, .getfield 3040, .if_icmp .ge 27] from rfl]
        simp (disch := omega) only [vs_if_icmp, vs_getfield, vs_aload0, vs_iload3, vs_nil, gv_0, gv_1, gv_2, gv_3, pv_0, pv_1, va_rf_s, Nat.reduceDiv, Nat.reduceMod, Nat.reduceAdd, Nat.reduceMul, Int.reduceToNat, true_and, and_true, and_self, cP_eq, cP_ne, cP_lt, cP_ge, cP_gt, cP_le, eL_i, eL_l, eL_r, eL_n, Option.toList_none, Option.toList_some, List.nil_append, List.cons_append, kkI, llI, nnI, rrI, jjI, kkJ, llJ, nnJ, rrJ, iiJ, zIIs, zJJs, nEF, nET, and_false, false_and, jmin, jmax, catS_n, catS_i, catS_r, catS_l, Nat.reduceLeDiff, j1eq1, n21, jt0, jt1, Bool.false_eq_true, Classical.not_not, true_or, or_true, false_or, or_false, true_imp_iff, false_imp_iff, not_true_eq_false, not_false_eq_true, jif0, jif1, jifb, ltT, ltF, leT, leF, eqT, eqF, jlt, jle, jeq, jlt0, jle0, jeq0, jge0, jgt0, jinB, jnat, clt, cle, ceq, cgt, cge, lI_add, lI_sub, lI_mul, jadd, jsub, jmul, jneg, jtol, b010, b011, pv_2t, Int.toNat_natCast, Option.some.injEq, exists_eq_left', if_true, if_false, nF gn.1, gn.2.2.1]
        refine vs_ok 4 ?_
        rw [show ((gRes 37).drop 27).take 4 = [.iload 1, .ifCond .ne 31, .iconst (-1), .ireturn] from rfl]
        simp (disch := omega) only [vs_iconst, vs_ifCond, vs_ireturn, vs_iload1, vs_nil, gv_0, gv_1, gv_2, gv_3, pv_0, pv_1, va_rf_s, Nat.reduceDiv, Nat.reduceMod, Nat.reduceAdd, Nat.reduceMul, Int.reduceToNat, true_and, and_true, and_self, cP_eq, cP_ne, cP_lt, cP_ge, cP_gt, cP_le, eL_i, eL_l, eL_r, eL_n, Option.toList_none, Option.toList_some, List.nil_append, List.cons_append, kkI, llI, nnI, rrI, jjI, kkJ, llJ, nnJ, rrJ, iiJ, zIIs, zJJs, nEF, nET, and_false, false_and, jmin, jmax, catS_n, catS_i, catS_r, catS_l, Nat.reduceLeDiff, j1eq1, n21, jt0, jt1, Bool.false_eq_true, Classical.not_not, true_or, or_true, false_or, or_false, true_imp_iff, false_imp_iff, not_true_eq_false, not_false_eq_true, jif0, jif1, jifb, ltT, ltF, leT, leF, eqT, eqF, jlt, jle, jeq, jlt0, jle0, jeq0, jge0, jgt0, jinB, jnat, clt, cle, ceq, cgt, cge, lI_add, lI_sub, lI_mul, jadd, jsub, jmul, jneg, jtol, b010, b011, pv_2t, Int.toNat_natCast, Option.some.injEq, exists_eq_left', if_true, if_false, show gRc 37 = 1 from rfl]
        exact hq0 c g f
      · refine vs_ok 4 ?_
        rw [show ((gRes 37).drop 6).take 4 = [.iload 3, .aload 0, .getfield 3040, .if_icmp .ge 27] from rfl]
        simp (disch := omega) only [vs_if_icmp, vs_getfield, vs_aload0, vs_iload3, vs_nil, gv_0, gv_1, gv_2, gv_3, pv_0, pv_1, va_rf_s, Nat.reduceDiv, Nat.reduceMod, Nat.reduceAdd, Nat.reduceMul, Int.reduceToNat, true_and, and_true, and_self, cP_eq, cP_ne, cP_lt, cP_ge, cP_gt, cP_le, eL_i, eL_l, eL_r, eL_n, Option.toList_none, Option.toList_some, List.nil_append, List.cons_append, kkI, llI, nnI, rrI, jjI, kkJ, llJ, nnJ, rrJ, iiJ, zIIs, zJJs, nEF, nET, and_false, false_and, jmin, jmax, catS_n, catS_i, catS_r, catS_l, Nat.reduceLeDiff, j1eq1, n21, jt0, jt1, Bool.false_eq_true, Classical.not_not, true_or, or_true, false_or, or_false, true_imp_iff, false_imp_iff, not_true_eq_false, not_false_eq_true, jif0, jif1, jifb, ltT, ltF, leT, leF, eqT, eqF, jlt, jle, jeq, jlt0, jle0, jeq0, jge0, jgt0, jinB, jnat, clt, cle, ceq, cgt, cge, lI_add, lI_sub, lI_mul, jadd, jsub, jmul, jneg, jtol, b010, b011, pv_2t, Int.toNat_natCast, Option.some.injEq, exists_eq_left', if_true, if_false, nF gn.1, gn.2.2.1]
        refine vs_ok 4 ?_
        rw [show ((gRes 37).drop 27).take 4 = [.iload 1, .ifCond .ne 31, .iconst (-1), .ireturn] from rfl]
        simp (disch := omega) only [vs_iconst, vs_ifCond, vs_ireturn, vs_iload1, vs_nil, gv_0, gv_1, gv_2, gv_3, pv_0, pv_1, va_rf_s, Nat.reduceDiv, Nat.reduceMod, Nat.reduceAdd, Nat.reduceMul, Int.reduceToNat, true_and, and_true, and_self, cP_eq, cP_ne, cP_lt, cP_ge, cP_gt, cP_le, eL_i, eL_l, eL_r, eL_n, Option.toList_none, Option.toList_some, List.nil_append, List.cons_append, kkI, llI, nnI, rrI, jjI, kkJ, llJ, nnJ, rrJ, iiJ, zIIs, zJJs, nEF, nET, and_false, false_and, jmin, jmax, catS_n, catS_i, catS_r, catS_l, Nat.reduceLeDiff, j1eq1, n21, jt0, jt1, Bool.false_eq_true, Classical.not_not, true_or, or_true, false_or, or_false, true_imp_iff, false_imp_iff, not_true_eq_false, not_false_eq_true, jif0, jif1, jifb, ltT, ltF, leT, leF, eqT, eqF, jlt, jle, jeq, jlt0, jle0, jeq0, jge0, jgt0, jinB, jnat, clt, cle, ceq, cgt, cge, lI_add, lI_sub, lI_mul, jadd, jsub, jmul, jneg, jtol, b010, b011, pv_2t, Int.toNat_natCast, Option.some.injEq, exists_eq_left', if_true, if_false, show gRc 37 = 1 from rfl]
        refine vs_ok 2 ?_
        rw [show ((gRes 37).drop 31).take 2 = [.aload 0, .iload 2] from rfl]
        simp (disch := omega) only [vs_aload0, vs_iload2, vs_nil, gv_0, gv_1, gv_2, gv_3, pv_0, pv_1, va_rf_s, Nat.reduceDiv, Nat.reduceMod, Nat.reduceAdd, Nat.reduceMul, Int.reduceToNat, true_and, and_true, and_self, cP_eq, cP_ne, cP_lt, cP_ge, cP_gt, cP_le, eL_i, eL_l, eL_r, eL_n, Option.toList_none, Option.toList_some, List.nil_append, List.cons_append, kkI, llI, nnI, rrI, jjI, kkJ, llJ, nnJ, rrJ, iiJ, zIIs, zJJs, nEF, nET, and_false, false_and, jmin, jmax, catS_n, catS_i, catS_r, catS_l, Nat.reduceLeDiff, j1eq1, n21, jt0, jt1, Bool.false_eq_true, Classical.not_not, true_or, or_true, false_or, or_false, true_imp_iff, false_imp_iff, not_true_eq_false, not_false_eq_true, jif0, jif1, jifb, ltT, ltF, leT, leF, eqT, eqF, jlt, jle, jeq, jlt0, jle0, jeq0, jge0, jgt0, jinB, jnat, clt, cle, ceq, cgt, cge, lI_add, lI_sub, lI_mul, jadd, jsub, jmul, jneg, jtol, b010, b011, pv_2t, Int.toNat_natCast, Option.some.injEq, exists_eq_left', if_true, if_false]
        refine PW.iv rfl rfl rfl (nF gn.1).1.1 (nF gn.1).1.2 (le_b rfl) (le_b rfl) ?_
        refine t_walkBack gn (hb2 c) fun g1 f1 hI1 => ⟨rfl, ⟨f1.1.2.2.1, rfl⟩, ?_⟩
        have f2 := f.tr f1
        have gn1 := kn g1 f2
        refine vs_ok 4 ?_
        rw [show ((gRes 37).drop 34).take 4 = [.pop, .aload 0, .iload 2, .iload 1] from rfl]
        simp (disch := omega) only [vs_aload0, vs_iload1, vs_iload2, vs_nil, gv_0, gv_1, gv_2, gv_3, pv_0, pv_1, va_rf_s, vs_popi, vs_popr, Nat.reduceDiv, Nat.reduceMod, Nat.reduceAdd, Nat.reduceMul, Int.reduceToNat, true_and, and_true, and_self, cP_eq, cP_ne, cP_lt, cP_ge, cP_gt, cP_le, eL_i, eL_l, eL_r, eL_n, Option.toList_none, Option.toList_some, List.nil_append, List.cons_append, kkI, llI, nnI, rrI, jjI, kkJ, llJ, nnJ, rrJ, iiJ, zIIs, zJJs, nEF, nET, and_false, false_and, jmin, jmax, catS_n, catS_i, catS_r, catS_l, Nat.reduceLeDiff, j1eq1, n21, jt0, jt1, Bool.false_eq_true, Classical.not_not, true_or, or_true, false_or, or_false, true_imp_iff, false_imp_iff, not_true_eq_false, not_false_eq_true, jif0, jif1, jifb, ltT, ltF, leT, leF, eqT, eqF, jlt, jle, jeq, jlt0, jle0, jeq0, jge0, jgt0, jinB, jnat, clt, cle, ceq, cgt, cge, lI_add, lI_sub, lI_mul, jadd, jsub, jmul, jneg, jtol, b010, b011, pv_2t, Int.toNat_natCast, Option.some.injEq, exists_eq_left', if_true, if_false]
        refine PW.iv rfl rfl rfl (nF gn1.1).1.1 (nF gn1.1).1.2 (le_b rfl) (le_b rfl) ?_
        refine t_layRing gn1 (hb2 c) ⟨by omega, by omega⟩ (fun i hi => ⟨by have := wbO_st (bt := bt) hnm (hb2 c) (nm - 1) 1 (2 ^ b2) (fun _ => 0) (by have := hb2 c; omega) (fun i => Nat.zero_le _) i; exact Nat.le_trans this (by omega), hI1 i hi⟩) fun g2 f3 e4 e3 e5 => ⟨rfl, ⟨f3.1.2.2.1, rfl⟩, ?_⟩
        refine vs_ok 2 ?_
        rw [show ((gRes 37).drop 39).take 2 = [.iload 1, .ireturn] from rfl]
        simp (disch := omega) only [vs_ireturn, vs_iload1, vs_nil, gv_0, gv_1, gv_2, gv_3, pv_0, pv_1, va_rf_s, Nat.reduceDiv, Nat.reduceMod, Nat.reduceAdd, Nat.reduceMul, Int.reduceToNat, true_and, and_true, and_self, cP_eq, cP_ne, cP_lt, cP_ge, cP_gt, cP_le, eL_i, eL_l, eL_r, eL_n, Option.toList_none, Option.toList_some, List.nil_append, List.cons_append, kkI, llI, nnI, rrI, jjI, kkJ, llJ, nnJ, rrJ, iiJ, zIIs, zJJs, nEF, nET, and_false, false_and, jmin, jmax, catS_n, catS_i, catS_r, catS_l, Nat.reduceLeDiff, j1eq1, n21, jt0, jt1, Bool.false_eq_true, Classical.not_not, true_or, or_true, false_or, or_false, true_imp_iff, false_imp_iff, not_true_eq_false, not_false_eq_true, jif0, jif1, jifb, ltT, ltF, leT, leF, eqT, eqF, jlt, jle, jeq, jlt0, jle0, jeq0, jge0, jgt0, jinB, jnat, clt, cle, ceq, cgt, cge, lI_add, lI_sub, lI_mul, jadd, jsub, jmul, jneg, jtol, b010, b011, pv_2t, Int.toNat_natCast, Option.some.injEq, exists_eq_left', if_true, if_false, show gRc 37 = 1 from rfl]
        refine hq1 c g2 ((f2.wk fun q z => Or.inr (Or.inl z)).tr (f3.wk fun q z => ?_)) ?_ e3 e5
        · rcases z with z | z
          · exact Or.inl z
          · exact Or.inr (Or.inr z)
        · rw [e4, gn1.2.2.1, h4]
    | succ k ih =>
      intro s b g o4 hk hb1 hb2 f hF
      have gn := kn g f
      have ef : srF bt nm (k + 1) s b = srF bt nm k (s + 1) (if 0 < (wbF bt nm s).1 ∧ (b.1 = 0 ∨ (wbF bt nm s).1 < b.1) then ((wbF bt nm s).1, s) else b) := rfl
      rw [ef] at hF
      refine vs_ok 4 ?_
      rw [show ((gRes 37).drop 6).take 4 = [.iload 3, .aload 0, .getfield 3040, .if_icmp .ge 27] from rfl]
      simp (disch := omega) only [vs_if_icmp, vs_getfield, vs_aload0, vs_iload3, vs_nil, gv_0, gv_1, gv_2, gv_3, pv_0, pv_1, va_rf_s, Nat.reduceDiv, Nat.reduceMod, Nat.reduceAdd, Nat.reduceMul, Int.reduceToNat, true_and, and_true, and_self, cP_eq, cP_ne, cP_lt, cP_ge, cP_gt, cP_le, eL_i, eL_l, eL_r, eL_n, Option.toList_none, Option.toList_some, List.nil_append, List.cons_append, kkI, llI, nnI, rrI, jjI, kkJ, llJ, nnJ, rrJ, iiJ, zIIs, zJJs, nEF, nET, and_false, false_and, jmin, jmax, catS_n, catS_i, catS_r, catS_l, Nat.reduceLeDiff, j1eq1, n21, jt0, jt1, Bool.false_eq_true, Classical.not_not, true_or, or_true, false_or, or_false, true_imp_iff, false_imp_iff, not_true_eq_false, not_false_eq_true, jif0, jif1, jifb, ltT, ltF, leT, leF, eqT, eqF, jlt, jle, jeq, jlt0, jle0, jeq0, jge0, jgt0, jinB, jnat, clt, cle, ceq, cgt, cge, lI_add, lI_sub, lI_mul, jadd, jsub, jmul, jneg, jtol, b010, b011, pv_2t, Int.toNat_natCast, Option.some.injEq, exists_eq_left', if_true, if_false, nF gn.1, gn.2.2.1]
      refine vs_ok 2 ?_
      rw [show ((gRes 37).drop 10).take 2 = [.aload 0, .iload 3] from rfl]
      simp (disch := omega) only [vs_aload0, vs_iload3, vs_nil, gv_0, gv_1, gv_2, gv_3, pv_0, pv_1, va_rf_s, Nat.reduceDiv, Nat.reduceMod, Nat.reduceAdd, Nat.reduceMul, Int.reduceToNat, true_and, and_true, and_self, cP_eq, cP_ne, cP_lt, cP_ge, cP_gt, cP_le, eL_i, eL_l, eL_r, eL_n, Option.toList_none, Option.toList_some, List.nil_append, List.cons_append, kkI, llI, nnI, rrI, jjI, kkJ, llJ, nnJ, rrJ, iiJ, zIIs, zJJs, nEF, nET, and_false, false_and, jmin, jmax, catS_n, catS_i, catS_r, catS_l, Nat.reduceLeDiff, j1eq1, n21, jt0, jt1, Bool.false_eq_true, Classical.not_not, true_or, or_true, false_or, or_false, true_imp_iff, false_imp_iff, not_true_eq_false, not_false_eq_true, jif0, jif1, jifb, ltT, ltF, leT, leF, eqT, eqF, jlt, jle, jeq, jlt0, jle0, jeq0, jge0, jgt0, jinB, jnat, clt, cle, ceq, cgt, cge, lI_add, lI_sub, lI_mul, jadd, jsub, jmul, jneg, jtol, b010, b011, pv_2t, Int.toNat_natCast, Option.some.injEq, exists_eq_left', if_true, if_false]
      refine PW.iv rfl rfl rfl (nF gn.1).1.1 (nF gn.1).1.2 (le_b rfl) (le_b rfl) ?_
      refine t_walkBack gn (by omega) fun g1 f1 hI1 => ⟨rfl, ⟨f1.1.2.2.1, rfl⟩, ?_⟩
      have lw : (wbF bt nm s).1 ≤ nm := wbO_le (nm - 1) 1 _ _ (by omega)
      have f2 := f.tr f1
      generalize (wbF bt nm s).1 = l at *
      obtain ⟨b1, b2⟩ := b
      dsimp only at hb1 hb2 hF
      have no : ¬ (0 < l ∧ (b1 = 0 ∨ l < b1)) → PW (d + 4) 37 25 [some (.ref x), some (.int (iI b1)), some (.int (iI b2)), some (.int (iI s)), some (.int (iI l))] [] g1 Q := fun c => by
        rw [if_neg c] at hF
        refine vs_ok 2 ?_
        rw [show ((gRes 37).drop 25).take 2 = [.iinc 3 1, .goto 6] from rfl]
        simp (disch := omega) only [vs_goto, vs_iinc3n, vs_iinc3i, vs_iinc3r, vs_iinc3l, vs_nil, gv_0, gv_1, gv_2, gv_3, pv_0, pv_1, va_rf_s, Nat.reduceDiv, Nat.reduceMod, Nat.reduceAdd, Nat.reduceMul, Int.reduceToNat, true_and, and_true, and_self, cP_eq, cP_ne, cP_lt, cP_ge, cP_gt, cP_le, eL_i, eL_l, eL_r, eL_n, Option.toList_none, Option.toList_some, List.nil_append, List.cons_append, kkI, llI, nnI, rrI, jjI, kkJ, llJ, nnJ, rrJ, iiJ, zIIs, zJJs, nEF, nET, and_false, false_and, jmin, jmax, catS_n, catS_i, catS_r, catS_l, Nat.reduceLeDiff, j1eq1, n21, jt0, jt1, Bool.false_eq_true, Classical.not_not, true_or, or_true, false_or, or_false, true_imp_iff, false_imp_iff, not_true_eq_false, not_false_eq_true, jif0, jif1, jifb, ltT, ltF, leT, leF, eqT, eqF, jlt, jle, jeq, jlt0, jle0, jeq0, jge0, jgt0, jinB, jnat, clt, cle, ceq, cgt, cge, lI_add, lI_sub, lI_mul, jadd, jsub, jmul, jneg, jtol, b010, b011, pv_2t, Int.toNat_natCast, Option.some.injEq, exists_eq_left', if_true, if_false]
        exact ih (s + 1) (b1, b2) g1 _ (by omega) hb1 hb2 f2 hF
      have yes : (0 < l ∧ (b1 = 0 ∨ l < b1)) → PW (d + 4) 37 21 [some (.ref x), some (.int (iI b1)), some (.int (iI b2)), some (.int (iI s)), some (.int (iI l))] [] g1 Q := fun c => by
        rw [if_pos c] at hF
        refine vs_ok 6 ?_
        rw [show ((gRes 37).drop 21).take 6 = [.iload 4, .istore 1, .iload 3, .istore 2, .iinc 3 1, .goto 6] from rfl]
        simp (disch := omega) only [vs_goto, vs_istore1n, vs_istore1i, vs_istore1r, vs_istore1l, vs_istore2n, vs_istore2i, vs_istore2r, vs_istore2l, vs_iload3, vs_iinc3n, vs_iinc3i, vs_iinc3r, vs_iinc3l, vs_iload4, vs_nil, gv_0, gv_1, gv_2, gv_3, pv_0, pv_1, va_rf_s, Nat.reduceDiv, Nat.reduceMod, Nat.reduceAdd, Nat.reduceMul, Int.reduceToNat, true_and, and_true, and_self, cP_eq, cP_ne, cP_lt, cP_ge, cP_gt, cP_le, eL_i, eL_l, eL_r, eL_n, Option.toList_none, Option.toList_some, List.nil_append, List.cons_append, kkI, llI, nnI, rrI, jjI, kkJ, llJ, nnJ, rrJ, iiJ, zIIs, zJJs, nEF, nET, and_false, false_and, jmin, jmax, catS_n, catS_i, catS_r, catS_l, Nat.reduceLeDiff, j1eq1, n21, jt0, jt1, Bool.false_eq_true, Classical.not_not, true_or, or_true, false_or, or_false, true_imp_iff, false_imp_iff, not_true_eq_false, not_false_eq_true, jif0, jif1, jifb, ltT, ltF, leT, leF, eqT, eqF, jlt, jle, jeq, jlt0, jle0, jeq0, jge0, jgt0, jinB, jnat, clt, cle, ceq, cgt, cge, lI_add, lI_sub, lI_mul, jadd, jsub, jmul, jneg, jtol, b010, b011, pv_2t, Int.toNat_natCast, Option.some.injEq, exists_eq_left', if_true, if_false]
        exact ih (s + 1) (l, s) g1 _ (by omega) lw (fun _ => by omega) f2 hF
      by_cases c1 : l = 0
      · refine vs_ok 3 ?_
        rw [show ((gRes 37).drop 13).take 3 = [.istore 4, .iload 4, .ifCond .le 25] from rfl]
        simp (disch := omega) only [vs_ifCond, vs_iload4, vs_istore4n, vs_istore4i, vs_istore4r, vs_istore4l, vs_nil, gv_0, gv_1, gv_2, gv_3, pv_0, pv_1, va_rf_s, Nat.reduceDiv, Nat.reduceMod, Nat.reduceAdd, Nat.reduceMul, Int.reduceToNat, true_and, and_true, and_self, cP_eq, cP_ne, cP_lt, cP_ge, cP_gt, cP_le, eL_i, eL_l, eL_r, eL_n, Option.toList_none, Option.toList_some, List.nil_append, List.cons_append, kkI, llI, nnI, rrI, jjI, kkJ, llJ, nnJ, rrJ, iiJ, zIIs, zJJs, nEF, nET, and_false, false_and, jmin, jmax, catS_n, catS_i, catS_r, catS_l, Nat.reduceLeDiff, j1eq1, n21, jt0, jt1, Bool.false_eq_true, Classical.not_not, true_or, or_true, false_or, or_false, true_imp_iff, false_imp_iff, not_true_eq_false, not_false_eq_true, jif0, jif1, jifb, ltT, ltF, leT, leF, eqT, eqF, jlt, jle, jeq, jlt0, jle0, jeq0, jge0, jgt0, jinB, jnat, clt, cle, ceq, cgt, cge, lI_add, lI_sub, lI_mul, jadd, jsub, jmul, jneg, jtol, b010, b011, pv_2t, Int.toNat_natCast, Option.some.injEq, exists_eq_left', if_true, if_false]
        exact no (by omega)
      · by_cases c2 : b1 = 0
        · refine vs_ok 14 ?_
          rw [show ((gRes 37).drop 13).take 14 = [.istore 4, .iload 4, .ifCond .le 25, .iload 1, .ifCond .eq 21, .iload 4, .iload 1, .if_icmp .ge 25, .iload 4, .istore 1, .iload 3, .istore 2, .iinc 3 1, .goto 6] from rfl]
          simp (disch := omega) only [vs_goto, vs_if_icmp, vs_ifCond, vs_iload1, vs_istore1n, vs_istore1i, vs_istore1r, vs_istore1l, vs_istore2n, vs_istore2i, vs_istore2r, vs_istore2l, vs_iload3, vs_iinc3n, vs_iinc3i, vs_iinc3r, vs_iinc3l, vs_iload4, vs_istore4n, vs_istore4i, vs_istore4r, vs_istore4l, vs_nil, gv_0, gv_1, gv_2, gv_3, pv_0, pv_1, va_rf_s, Nat.reduceDiv, Nat.reduceMod, Nat.reduceAdd, Nat.reduceMul, Int.reduceToNat, true_and, and_true, and_self, cP_eq, cP_ne, cP_lt, cP_ge, cP_gt, cP_le, eL_i, eL_l, eL_r, eL_n, Option.toList_none, Option.toList_some, List.nil_append, List.cons_append, kkI, llI, nnI, rrI, jjI, kkJ, llJ, nnJ, rrJ, iiJ, zIIs, zJJs, nEF, nET, and_false, false_and, jmin, jmax, catS_n, catS_i, catS_r, catS_l, Nat.reduceLeDiff, j1eq1, n21, jt0, jt1, Bool.false_eq_true, Classical.not_not, true_or, or_true, false_or, or_false, true_imp_iff, false_imp_iff, not_true_eq_false, not_false_eq_true, jif0, jif1, jifb, ltT, ltF, leT, leF, eqT, eqF, jlt, jle, jeq, jlt0, jle0, jeq0, jge0, jgt0, jinB, jnat, clt, cle, ceq, cgt, cge, lI_add, lI_sub, lI_mul, jadd, jsub, jmul, jneg, jtol, b010, b011, pv_2t, Int.toNat_natCast, Option.some.injEq, exists_eq_left', if_true, if_false]
          exact yes (by omega)
        · by_cases c3 : l < b1
          · refine vs_ok 8 ?_
            rw [show ((gRes 37).drop 13).take 8 = [.istore 4, .iload 4, .ifCond .le 25, .iload 1, .ifCond .eq 21, .iload 4, .iload 1, .if_icmp .ge 25] from rfl]
            simp (disch := omega) only [vs_if_icmp, vs_ifCond, vs_iload1, vs_iload4, vs_istore4n, vs_istore4i, vs_istore4r, vs_istore4l, vs_nil, gv_0, gv_1, gv_2, gv_3, pv_0, pv_1, va_rf_s, Nat.reduceDiv, Nat.reduceMod, Nat.reduceAdd, Nat.reduceMul, Int.reduceToNat, true_and, and_true, and_self, cP_eq, cP_ne, cP_lt, cP_ge, cP_gt, cP_le, eL_i, eL_l, eL_r, eL_n, Option.toList_none, Option.toList_some, List.nil_append, List.cons_append, kkI, llI, nnI, rrI, jjI, kkJ, llJ, nnJ, rrJ, iiJ, zIIs, zJJs, nEF, nET, and_false, false_and, jmin, jmax, catS_n, catS_i, catS_r, catS_l, Nat.reduceLeDiff, j1eq1, n21, jt0, jt1, Bool.false_eq_true, Classical.not_not, true_or, or_true, false_or, or_false, true_imp_iff, false_imp_iff, not_true_eq_false, not_false_eq_true, jif0, jif1, jifb, ltT, ltF, leT, leF, eqT, eqF, jlt, jle, jeq, jlt0, jle0, jeq0, jge0, jgt0, jinB, jnat, clt, cle, ceq, cgt, cge, lI_add, lI_sub, lI_mul, jadd, jsub, jmul, jneg, jtol, b010, b011, pv_2t, Int.toNat_natCast, Option.some.injEq, exists_eq_left', if_true, if_false]
            exact yes (by omega)
          · refine vs_ok 14 ?_
            rw [show ((gRes 37).drop 13).take 14 = [.istore 4, .iload 4, .ifCond .le 25, .iload 1, .ifCond .eq 21, .iload 4, .iload 1, .if_icmp .ge 25, .iload 4, .istore 1, .iload 3, .istore 2, .iinc 3 1, .goto 6] from rfl]
            simp (disch := omega) only [vs_goto, vs_if_icmp, vs_ifCond, vs_iload1, vs_istore1n, vs_istore1i, vs_istore1r, vs_istore1l, vs_istore2n, vs_istore2i, vs_istore2r, vs_istore2l, vs_iload3, vs_iinc3n, vs_iinc3i, vs_iinc3r, vs_iinc3l, vs_iload4, vs_istore4n, vs_istore4i, vs_istore4r, vs_istore4l, vs_nil, gv_0, gv_1, gv_2, gv_3, pv_0, pv_1, va_rf_s, Nat.reduceDiv, Nat.reduceMod, Nat.reduceAdd, Nat.reduceMul, Int.reduceToNat, true_and, and_true, and_self, cP_eq, cP_ne, cP_lt, cP_ge, cP_gt, cP_le, eL_i, eL_l, eL_r, eL_n, Option.toList_none, Option.toList_some, List.nil_append, List.cons_append, kkI, llI, nnI, rrI, jjI, kkJ, llJ, nnJ, rrJ, iiJ, zIIs, zJJs, nEF, nET, and_false, false_and, jmin, jmax, catS_n, catS_i, catS_r, catS_l, Nat.reduceLeDiff, j1eq1, n21, jt0, jt1, Bool.false_eq_true, Classical.not_not, true_or, or_true, false_or, or_false, true_imp_iff, false_imp_iff, not_true_eq_false, not_false_eq_true, jif0, jif1, jifb, ltT, ltF, leT, leF, eqT, eqF, jlt, jle, jeq, jlt0, jle0, jeq0, jge0, jgt0, jinB, jnat, clt, cle, ceq, cgt, cge, lI_add, lI_sub, lI_mul, jadd, jsub, jmul, jneg, jtol, b010, b011, pv_2t, Int.toNat_natCast, Option.some.injEq, exists_eq_left', if_true, if_false]
            exact no (by omega)
  refine vs_ok 6 ?_
  rw [show ((gRes 37).drop 0).take 6 = [.iconst 0, .istore 1, .iconst 0, .istore 2, .iconst 0, .istore 3] from rfl]
  simp (disch := omega) only [vs_iconst, vs_istore1n, vs_istore1i, vs_istore1r, vs_istore1l, vs_istore2n, vs_istore2i, vs_istore2r, vs_istore2l, vs_istore3n, vs_istore3i, vs_istore3r, vs_istore3l, vs_nil, gv_0, gv_1, gv_2, gv_3, pv_0, pv_1, va_rf_s, Nat.reduceDiv, Nat.reduceMod, Nat.reduceAdd, Nat.reduceMul, Int.reduceToNat, true_and, and_true, and_self, cP_eq, cP_ne, cP_lt, cP_ge, cP_gt, cP_le, eL_i, eL_l, eL_r, eL_n, Option.toList_none, Option.toList_some, List.nil_append, List.cons_append, kkI, llI, nnI, rrI, jjI, kkJ, llJ, nnJ, rrJ, iiJ, zIIs, zJJs, nEF, nET, and_false, false_and, jmin, jmax, catS_n, catS_i, catS_r, catS_l, Nat.reduceLeDiff, j1eq1, n21, jt0, jt1, Bool.false_eq_true, Classical.not_not, true_or, or_true, false_or, or_false, true_imp_iff, false_imp_iff, not_true_eq_false, not_false_eq_true, jif0, jif1, jifb, ltT, ltF, leT, leF, eqT, eqF, jlt, jle, jeq, jlt0, jle0, jeq0, jge0, jgt0, jinB, jnat, clt, cle, ceq, cgt, cge, lI_add, lI_sub, lI_mul, jadd, jsub, jmul, jneg, jtol, b010, b011, pv_2t, Int.toNat_natCast, Option.some.injEq, exists_eq_left', if_true, if_false]
  exact lp nm 0 (0, 0) h none (by omega) (by omega) (fun z => absurd rfl z) fi.rf rfl
/-! Net.read -/
theorem t_rowN {d : Nat} {h : Hp} {t a : Nat} {nm : Int} {F Wd : Nat → Int} {Q : Nat → Option Value → Hp → Prop} (ht : isTb h t nm F Wd) (ha : a < 12) (hq : Q 0 (some (.ref (t + 4 + 2 * a))) h) : PR d m_Table_row [.ref t, .int (iI a)] h Q := by
  refine t_row ht (by constructor <;> omega) ?_
  rw [if_pos (by omega), Int.toNat_natCast]
  exact hq
theorem isTb.fi {S : Nat → Prop} {h g : Hp} {t : Nat} {nm : Int} {F Wd : Nat → Int} (ht : isTb h t nm F Wd) (f : fi S h g) (h1 : ¬ S t) (h2 : ¬ S (t + 2)) (h3 : ¬ S (t + 3)) : isTb g t nm F Wd := by
  obtain ⟨a1, a2, a3, a4, a5, a6, a7⟩ := ht
  refine ⟨by rw [f.1.1]; exact a1, by rw [f.1.2.2.1]; exact a2, ?_, ?_, ?_, ?_, a7⟩
  · rw [f.2, f.1.1, f.1.2.1]
    exact a3
  · rw [f.2, f.1.1, f.1.2.1, f.1.2.2.2.2.2.1 _ h2]
    exact a4
  · rw [f.2, f.1.1, f.1.2.1, f.1.2.2.2.2.2.1 _ h3]
    exact a5
  · rw [f.1.2.2.2.2.2.1 _ h1]
    exact a6
/-- the pair i, j has been looked at, when the loops stand at a, b -/
abbrev pdn (a b i j : Nat) : Prop := min i j < a ∨ min i j = a ∧ max i j < b
/-- bt tells who beats whom of nm, by leads L, as far as the loops have come -/
def rdP (L : Nat → Nat → Int) (nm a b : Nat) (bt : Nat → Nat) : Prop := (∀ i, i < 12 → bt i < 4096) ∧ ∀ i, i < 12 → ∀ j, (bt i).testBit j = decide (i < nm ∧ j < nm ∧ pdn a b i j ∧ (i < j ∧ 0 < L i j ∨ j < i ∧ L j i < 0))
theorem or_tb (x v j : Nat) : (x ||| 2 ^ v).testBit j = (x.testBit j || decide (v = j)) := by
  rw [Nat.testBit_or, Nat.testBit_two_pow]
theorem t_Net_read {d : Nat} {h : Hp} {x t nm : Nat} {bt0 : Nat → Nat} {F Wd : Nat → Int} {V : Nat → RowVal} {Q : Nat → Option Value → Hp → Prop} (ho : objA h x 3 netL) (ht : isTb h t nm F Wd) (hnm : nm ≤ 12) (hv : ∀ k, k < 12 → rowP h (t + 4 + 2 * k) 200 (V k)) (hx : x + 1 < t ∨ t + 28 ≤ x) (hL : ∀ a b, a < nm → b < nm → i64 (ldV (V a).2.2.2 (V b).2.2.2))
    (hq : ∀ h' bt, fi (fun q => q = x ∨ q = x + 1) h h' → zI h' x 3 = zI h x 3 → netC h' x nm bt → rdP (fun a b => ldV (V a).2.2.2 (V b).2.2.2) nm nm 0 bt → Q 0 none h') : PR (d + 2) m_Net_read [.ref x, .ref t] h Q := by
  show PW (d + 2) 34 0 [some (.ref x), some (.ref t), none, none, none, none] [] h Q
  have tk : zK h t = 7 ∧ t < zN h := ⟨ht.1, by have := ht.2.1; omega⟩
  have t6 : zI h t 3 = iI nm := ht.2.2.2.2.2.1
  have tg : ∀ g, fi (fun q => q = x ∨ q = x + 1) h g → isTb g t nm F Wd ∧ ∀ k, k < 12 → rowP g (t + 4 + 2 * k) 200 (V k) := fun g f => ⟨ht.fi f (by omega) (by omega) (by omega), fun k hk => (hv k hk).keep f.1 (by omega) (by omega)⟩
  have lb : ∀ (a : Nat), a < nm → ∀ (k b : Nat) (bt : Nat → Nat) (g : Hp) (o4 o5 : Option Value), k + b = nm → a < b → fi (fun q => q = x ∨ q = x + 1) h g → zI g x 3 = zI h x 3 → netC g x nm bt → rdP (fun a b => ldV (V a).2.2.2 (V b).2.2.2) nm a b bt → (∀ bt g o3 o4 o5, fi (fun q => q = x ∨ q = x + 1) h g → zI g x 3 = zI h x 3 → netC g x nm bt → rdP (fun a b => ldV (V a).2.2.2 (V b).2.2.2) nm a nm bt → PW (d + 2) 34 63 [some (.ref x), some (.ref t), some (.int (iI a)), o3, o4, o5] [] g Q) → PW (d + 2) 34 20 [some (.ref x), some (.ref t), some (.int (iI a)), some (.int (iI b)), o4, o5] [] g Q := by
    intro a ha k
    induction k with
    | zero =>
      intro b bt g o4 o5 hk hab f h3 gn hr K
      have e : b = nm := by omega
      subst e
      refine vs_ok 4 ?_
      rw [show ((gRes 34).drop 20).take 4 = [.iload 3, .aload 0, .getfield 3040, .if_icmp .ge 63] from rfl]
      simp (disch := omega) only [vs_if_icmp, vs_getfield, vs_aload0, vs_iload3, vs_nil, gv_0, gv_1, gv_2, gv_3, pv_0, pv_1, va_rf_s, Nat.reduceDiv, Nat.reduceMod, Nat.reduceAdd, Nat.reduceMul, Int.reduceToNat, true_and, and_true, and_self, cP_eq, cP_ne, cP_lt, cP_ge, cP_gt, cP_le, eL_i, eL_l, eL_r, eL_n, Option.toList_none, Option.toList_some, List.nil_append, List.cons_append, kkI, llI, nnI, rrI, jjI, kkJ, llJ, nnJ, rrJ, iiJ, zIIs, zJJs, nEF, nET, and_false, false_and, jmin, jmax, catS_n, catS_i, catS_r, catS_l, Nat.reduceLeDiff, j1eq1, n21, jt0, jt1, Bool.false_eq_true, Classical.not_not, true_or, or_true, false_or, or_false, true_imp_iff, false_imp_iff, not_true_eq_false, not_false_eq_true, jif0, jif1, jifb, ltT, ltF, leT, leF, eqT, eqF, jlt, jle, jeq, jlt0, jle0, jeq0, jge0, jgt0, jinB, jnat, clt, cle, ceq, cgt, cge, lI_add, lI_sub, lI_mul, jadd, jsub, jmul, jneg, jtol, b010, b011, pv_2t, Int.toNat_natCast, Option.some.injEq, exists_eq_left', if_true, if_false, nF gn.1, gn.2.2.1]
      exact K bt g _ _ _ f h3 gn hr
    | succ k ih =>
      intro b bt g o4 o5 hk hab f h3 gn hr K
      obtain ⟨tg1, tg2⟩ := tg g f
      have tgk : zK g t = 7 ∧ t < zN g := ⟨tg1.1, by have := tg1.2.1; omega⟩
      have tgn := tg1.2.1
      have oa : t + 4 + 2 * a < zN g := by omega
      have ob : t + 4 + 2 * b < zN g := by omega
      refine vs_ok 6 ?_
      rw [show ((gRes 34).drop 20).take 6 = [.iload 3, .aload 0, .getfield 3040, .if_icmp .ge 63, .aload 1, .iload 2] from rfl]
      simp (disch := omega) only [vs_if_icmp, vs_getfield, vs_aload0, vs_aload1, vs_iload2, vs_iload3, vs_nil, gv_0, gv_1, gv_2, gv_3, pv_0, pv_1, va_rf_s, Nat.reduceDiv, Nat.reduceMod, Nat.reduceAdd, Nat.reduceMul, Int.reduceToNat, true_and, and_true, and_self, cP_eq, cP_ne, cP_lt, cP_ge, cP_gt, cP_le, eL_i, eL_l, eL_r, eL_n, Option.toList_none, Option.toList_some, List.nil_append, List.cons_append, kkI, llI, nnI, rrI, jjI, kkJ, llJ, nnJ, rrJ, iiJ, zIIs, zJJs, nEF, nET, and_false, false_and, jmin, jmax, catS_n, catS_i, catS_r, catS_l, Nat.reduceLeDiff, j1eq1, n21, jt0, jt1, Bool.false_eq_true, Classical.not_not, true_or, or_true, false_or, or_false, true_imp_iff, false_imp_iff, not_true_eq_false, not_false_eq_true, jif0, jif1, jifb, ltT, ltF, leT, leF, eqT, eqF, jlt, jle, jeq, jlt0, jle0, jeq0, jge0, jgt0, jinB, jnat, clt, cle, ceq, cgt, cge, lI_add, lI_sub, lI_mul, jadd, jsub, jmul, jneg, jtol, b010, b011, pv_2t, Int.toNat_natCast, Option.some.injEq, exists_eq_left', if_true, if_false, nF gn.1, gn.2.2.1]
      refine PW.iv rfl rfl rfl tgk.1 tgk.2 (le_b rfl) (le_b rfl) ?_
      refine t_rowN tg1 (by omega) ⟨rfl, ⟨rfl, decide_eq_true (Or.inl oa)⟩, ?_⟩
      refine vs_ok 2 ?_
      rw [show ((gRes 34).drop 27).take 2 = [.aload 1, .iload 3] from rfl]
      simp (disch := omega) only [vs_aload1, vs_iload3, vs_nil, gv_0, gv_1, gv_2, gv_3, pv_0, pv_1, va_rf_s, Nat.reduceDiv, Nat.reduceMod, Nat.reduceAdd, Nat.reduceMul, Int.reduceToNat, true_and, and_true, and_self, cP_eq, cP_ne, cP_lt, cP_ge, cP_gt, cP_le, eL_i, eL_l, eL_r, eL_n, Option.toList_none, Option.toList_some, List.nil_append, List.cons_append, kkI, llI, nnI, rrI, jjI, kkJ, llJ, nnJ, rrJ, iiJ, zIIs, zJJs, nEF, nET, and_false, false_and, jmin, jmax, catS_n, catS_i, catS_r, catS_l, Nat.reduceLeDiff, j1eq1, n21, jt0, jt1, Bool.false_eq_true, Classical.not_not, true_or, or_true, false_or, or_false, true_imp_iff, false_imp_iff, not_true_eq_false, not_false_eq_true, jif0, jif1, jifb, ltT, ltF, leT, leF, eqT, eqF, jlt, jle, jeq, jlt0, jle0, jeq0, jge0, jgt0, jinB, jnat, clt, cle, ceq, cgt, cge, lI_add, lI_sub, lI_mul, jadd, jsub, jmul, jneg, jtol, b010, b011, pv_2t, Int.toNat_natCast, Option.some.injEq, exists_eq_left', if_true, if_false]
      refine PW.iv rfl rfl rfl tgk.1 tgk.2 (le_b rfl) (le_b rfl) ?_
      refine t_rowN tg1 (by omega) ⟨rfl, ⟨rfl, decide_eq_true (Or.inl ob)⟩, ?_⟩
      have va := tg2 a (by omega)
      have vb := tg2 b (by omega)
      refine PW.iv rfl rfl rfl va.1.1 va.1.2.1 (le_b rfl) (le_b rfl) ?_
      refine t_lead va vb ⟨rfl, ⟨rfl, rfl⟩, ?_⟩
      have hl := hL a b (by omega) (by omega)
      have nxt : ∀ bt g o4 o5, fi (fun q => q = x ∨ q = x + 1) h g → zI g x 3 = zI h x 3 → netC g x nm bt → rdP (fun a b => ldV (V a).2.2.2 (V b).2.2.2) nm a (b + 1) bt → PW (d + 2) 34 61 [some (.ref x), some (.ref t), some (.int (iI a)), some (.int (iI b)), o4, o5] [] g Q := fun bt g o4 o5 f h3 gn hr => by
        refine vs_ok 2 ?_
        rw [show ((gRes 34).drop 61).take 2 = [.iinc 3 1, .goto 20] from rfl]
        simp (disch := omega) only [vs_goto, vs_iinc3n, vs_iinc3i, vs_iinc3r, vs_iinc3l, vs_nil, gv_0, gv_1, gv_2, gv_3, pv_0, pv_1, va_rf_s, Nat.reduceDiv, Nat.reduceMod, Nat.reduceAdd, Nat.reduceMul, Int.reduceToNat, true_and, and_true, and_self, cP_eq, cP_ne, cP_lt, cP_ge, cP_gt, cP_le, eL_i, eL_l, eL_r, eL_n, Option.toList_none, Option.toList_some, List.nil_append, List.cons_append, kkI, llI, nnI, rrI, jjI, kkJ, llJ, nnJ, rrJ, iiJ, zIIs, zJJs, nEF, nET, and_false, false_and, jmin, jmax, catS_n, catS_i, catS_r, catS_l, Nat.reduceLeDiff, j1eq1, n21, jt0, jt1, Bool.false_eq_true, Classical.not_not, true_or, or_true, false_or, or_false, true_imp_iff, false_imp_iff, not_true_eq_false, not_false_eq_true, jif0, jif1, jifb, ltT, ltF, leT, leF, eqT, eqF, jlt, jle, jeq, jlt0, jle0, jeq0, jge0, jgt0, jinB, jnat, clt, cle, ceq, cgt, cge, lI_add, lI_sub, lI_mul, jadd, jsub, jmul, jneg, jtol, b010, b011, pv_2t, Int.toNat_natCast, Option.some.injEq, exists_eq_left', if_true, if_false]
        exact ih (b + 1) bt g _ _ (by omega) (by omega) f h3 gn hr K
      -- one more bit
      have put : ∀ u v : Nat, (u = a ∧ v = b ∧ 0 < ldV (V a).2.2.2 (V b).2.2.2) ∨ (u = b ∧ v = a ∧ ldV (V a).2.2.2 (V b).2.2.2 < 0) → netC (zsI g (x + 1) u (iI (bt u ||| 2 ^ v : Nat))) x nm (fun i => if i = u then bt u ||| 2 ^ v else bt i) ∧ rdP (fun a b => ldV (V a).2.2.2 (V b).2.2.2) nm a (b + 1) (fun i => if i = u then bt u ||| 2 ^ v else bt i) := fun u v huv => by
        have hu : u < 12 := by omega
        have hv12 : v < 12 := by omega
        have bu : bt u ||| 2 ^ v < 4096 := or_lt (hr.1 u hu) (p2_12 hv12)
        refine ⟨⟨gn.1.fi (fi_I (S := fun q => q = x + 1) rfl), hnm, ?_, fun i hi => ⟨?_, ?_⟩⟩, fun i hi => ?_, fun i hi j => ?_⟩
        · rw [zI_s, if_neg (by omega)]
          exact gn.2.2.1
        · show (if i = u then bt u ||| 2 ^ v else bt i) < 4096
          split
          · exact bu
          · exact hr.1 i hi
        · rw [zI_s]
          show _ = iI ((if i = u then bt u ||| 2 ^ v else bt i : Nat))
          by_cases c : i = u
          · rw [if_pos ⟨rfl, c⟩, if_pos c]
          · rw [if_neg (fun z => c z.2), if_neg c]
            exact (gn.2.2.2 i hi).2
        · show (if i = u then bt u ||| 2 ^ v else bt i) < 4096
          split
          · exact bu
          · exact hr.1 i hi
        · show (if i = u then bt u ||| 2 ^ v else bt i).testBit j = _
          have h1 := hr.2 i hi j
          by_cases c : i = u
          · rw [if_pos c, or_tb, ← c, h1, ← Bool.decide_or]
            apply decide_eq_decide.mpr
            constructor
            · rintro (z | z)
              · exact ⟨z.1, z.2.1, by omega, z.2.2.2⟩
              · subst z
                refine ⟨by omega, by omega, by omega, ?_⟩
                rcases huv with ⟨e1, e2, e3⟩ | ⟨e1, e2, e3⟩
                · left
                  rw [c, e1, e2]
                  exact ⟨hab, e3⟩
                · right
                  rw [c, e1, e2]
                  exact ⟨hab, e3⟩
            · rintro ⟨z1, z2, z3, z4⟩
              by_cases c2 : v = j
              · exact Or.inr c2
              · exact Or.inl ⟨z1, z2, by omega, z4⟩
          · rw [if_neg c, h1]
            apply decide_eq_decide.mpr
            constructor
            · rintro ⟨z1, z2, z3, z4⟩
              exact ⟨z1, z2, by omega, z4⟩
            · rintro ⟨z1, z2, z3, z4⟩
              refine ⟨z1, z2, ?_, z4⟩
              by_cases c2 : min i j = a ∧ max i j = b
              · exfalso
                rcases z4 with ⟨y1, y2⟩ | ⟨y1, y2⟩
                · have e1 : i = a := by omega
                  have e2 : j = b := by omega
                  rw [e1, e2] at y2
                  change 0 < ldV (V a).2.2.2 (V b).2.2.2 at y2
                  omega
                · have e1 : i = b := by omega
                  have e2 : j = a := by omega
                  rw [e1, e2] at y2
                  change ldV (V a).2.2.2 (V b).2.2.2 < 0 at y2
                  omega
              · omega
      have hl1 := hl.1
      have hl2 := hl.2
      by_cases c1 : 0 < ldV (V a).2.2.2 (V b).2.2.2
      · obtain ⟨p1, p2⟩ := put a b (Or.inl ⟨rfl, rfl, c1⟩)
        refine vs_ok 5 ?_
        rw [show ((gRes 34).drop 31).take 5 = [.lstore 4, .lload 4, .jsr_w 0, .lcmp, .ifCond .le 47] from rfl]
        simp (disch := omega) only [vs_lcmp, vs_jsr_w, vs_ifCond, vs_lload4, vs_lstore4n, vs_lstore4i, vs_lstore4r, vs_lstore4l, vs_nil, gv_0, gv_1, gv_2, gv_3, pv_0, pv_1, va_rf_s, Nat.reduceDiv, Nat.reduceMod, Nat.reduceAdd, Nat.reduceMul, Int.reduceToNat, true_and, and_true, and_self, cP_eq, cP_ne, cP_lt, cP_ge, cP_gt, cP_le, eL_i, eL_l, eL_r, eL_n, Option.toList_none, Option.toList_some, List.nil_append, List.cons_append, kkI, llI, nnI, rrI, jjI, kkJ, llJ, nnJ, rrJ, iiJ, zIIs, zJJs, nEF, nET, and_false, false_and, jmin, jmax, catS_n, catS_i, catS_r, catS_l, Nat.reduceLeDiff, j1eq1, n21, jt0, jt1, Bool.false_eq_true, Classical.not_not, true_or, or_true, false_or, or_false, true_imp_iff, false_imp_iff, not_true_eq_false, not_false_eq_true, jif0, jif1, jifb, ltT, ltF, leT, leF, eqT, eqF, jlt, jle, jeq, jlt0, jle0, jeq0, jge0, jgt0, jinB, jnat, clt, cle, ceq, cgt, cge, lI_add, lI_sub, lI_mul, jadd, jsub, jmul, jneg, jtol, b010, b011, pv_2t, Int.toNat_natCast, Option.some.injEq, exists_eq_left', if_true, if_false]
        refine vs_ok 10 ?_
        rw [show ((gRes 34).drop 36).take 10 = [.aload 0, .getfield 3002, .iload 2, .dup2, .iaload, .iconst 1, .iload 3, .ishl, .ior, .iastore] from rfl]
        simp (disch := omega) only [vs_iconst, vs_getfield, vs_iaload, vs_iastore, vs_dup2, vs_aload0, vs_iload2, vs_iload3, vs_nil, gv_0, gv_1, gv_2, gv_3, pv_0, pv_1, va_rf_s, vs_ior, vs_ishl, Nat.reduceDiv, Nat.reduceMod, Nat.reduceAdd, Nat.reduceMul, Int.reduceToNat, true_and, and_true, and_self, cP_eq, cP_ne, cP_lt, cP_ge, cP_gt, cP_le, eL_i, eL_l, eL_r, eL_n, Option.toList_none, Option.toList_some, List.nil_append, List.cons_append, kkI, llI, nnI, rrI, jjI, kkJ, llJ, nnJ, rrJ, iiJ, zIIs, zJJs, nEF, nET, and_false, false_and, jmin, jmax, catS_n, catS_i, catS_r, catS_l, Nat.reduceLeDiff, j1eq1, n21, jt0, jt1, Bool.false_eq_true, Classical.not_not, true_or, or_true, false_or, or_false, true_imp_iff, false_imp_iff, not_true_eq_false, not_false_eq_true, jif0, jif1, jifb, ltT, ltF, leT, leF, eqT, eqF, jlt, jle, jeq, jlt0, jle0, jeq0, jge0, jgt0, jinB, jnat, clt, cle, ceq, cgt, cge, lI_add, lI_sub, lI_mul, jadd, jsub, jmul, jneg, jtol, b010, b011, pv_2t, Int.toNat_natCast, Option.some.injEq, exists_eq_left', if_true, if_false, nF gn.1, (gn.2.2.2 a (by omega)).2, jshl1, jor]
        refine vs_ok 1 ?_
        rw [show ((gRes 34).drop 46).take 1 = [.goto 61] from rfl]
        simp (disch := omega) only [vs_goto, vs_nil, gv_0, gv_1, gv_2, gv_3, pv_0, pv_1, va_rf_s, Nat.reduceDiv, Nat.reduceMod, Nat.reduceAdd, Nat.reduceMul, Int.reduceToNat, true_and, and_true, and_self, cP_eq, cP_ne, cP_lt, cP_ge, cP_gt, cP_le, eL_i, eL_l, eL_r, eL_n, Option.toList_none, Option.toList_some, List.nil_append, List.cons_append, kkI, llI, nnI, rrI, jjI, kkJ, llJ, nnJ, rrJ, iiJ, zIIs, zJJs, nEF, nET, and_false, false_and, jmin, jmax, catS_n, catS_i, catS_r, catS_l, Nat.reduceLeDiff, j1eq1, n21, jt0, jt1, Bool.false_eq_true, Classical.not_not, true_or, or_true, false_or, or_false, true_imp_iff, false_imp_iff, not_true_eq_false, not_false_eq_true, jif0, jif1, jifb, ltT, ltF, leT, leF, eqT, eqF, jlt, jle, jeq, jlt0, jle0, jeq0, jge0, jgt0, jinB, jnat, clt, cle, ceq, cgt, cge, lI_add, lI_sub, lI_mul, jadd, jsub, jmul, jneg, jtol, b010, b011, pv_2t, Int.toNat_natCast, Option.some.injEq, exists_eq_left', if_true, if_false]
        exact nxt _ _ _ _ (f.I (Or.inr rfl)) (by rw [zI_s, if_neg (by omega)]; exact h3) p1 p2
      · by_cases c2 : ldV (V a).2.2.2 (V b).2.2.2 < 0
        · obtain ⟨p1, p2⟩ := put b a (Or.inr ⟨rfl, rfl, c2⟩)
          refine vs_ok 5 ?_
          rw [show ((gRes 34).drop 31).take 5 = [.lstore 4, .lload 4, .jsr_w 0, .lcmp, .ifCond .le 47] from rfl]
          simp (disch := omega) only [vs_lcmp, vs_jsr_w, vs_ifCond, vs_lload4, vs_lstore4n, vs_lstore4i, vs_lstore4r, vs_lstore4l, vs_nil, gv_0, gv_1, gv_2, gv_3, pv_0, pv_1, va_rf_s, Nat.reduceDiv, Nat.reduceMod, Nat.reduceAdd, Nat.reduceMul, Int.reduceToNat, true_and, and_true, and_self, cP_eq, cP_ne, cP_lt, cP_ge, cP_gt, cP_le, eL_i, eL_l, eL_r, eL_n, Option.toList_none, Option.toList_some, List.nil_append, List.cons_append, kkI, llI, nnI, rrI, jjI, kkJ, llJ, nnJ, rrJ, iiJ, zIIs, zJJs, nEF, nET, and_false, false_and, jmin, jmax, catS_n, catS_i, catS_r, catS_l, Nat.reduceLeDiff, j1eq1, n21, jt0, jt1, Bool.false_eq_true, Classical.not_not, true_or, or_true, false_or, or_false, true_imp_iff, false_imp_iff, not_true_eq_false, not_false_eq_true, jif0, jif1, jifb, ltT, ltF, leT, leF, eqT, eqF, jlt, jle, jeq, jlt0, jle0, jeq0, jge0, jgt0, jinB, jnat, clt, cle, ceq, cgt, cge, lI_add, lI_sub, lI_mul, jadd, jsub, jmul, jneg, jtol, b010, b011, pv_2t, Int.toNat_natCast, Option.some.injEq, exists_eq_left', if_true, if_false]
          refine vs_ok 4 ?_
          rw [show ((gRes 34).drop 47).take 4 = [.lload 4, .jsr_w 0, .lcmp, .ifCond .ge 61] from rfl]
          simp (disch := omega) only [vs_lcmp, vs_jsr_w, vs_ifCond, vs_lload4, vs_nil, gv_0, gv_1, gv_2, gv_3, pv_0, pv_1, va_rf_s, Nat.reduceDiv, Nat.reduceMod, Nat.reduceAdd, Nat.reduceMul, Int.reduceToNat, true_and, and_true, and_self, cP_eq, cP_ne, cP_lt, cP_ge, cP_gt, cP_le, eL_i, eL_l, eL_r, eL_n, Option.toList_none, Option.toList_some, List.nil_append, List.cons_append, kkI, llI, nnI, rrI, jjI, kkJ, llJ, nnJ, rrJ, iiJ, zIIs, zJJs, nEF, nET, and_false, false_and, jmin, jmax, catS_n, catS_i, catS_r, catS_l, Nat.reduceLeDiff, j1eq1, n21, jt0, jt1, Bool.false_eq_true, Classical.not_not, true_or, or_true, false_or, or_false, true_imp_iff, false_imp_iff, not_true_eq_false, not_false_eq_true, jif0, jif1, jifb, ltT, ltF, leT, leF, eqT, eqF, jlt, jle, jeq, jlt0, jle0, jeq0, jge0, jgt0, jinB, jnat, clt, cle, ceq, cgt, cge, lI_add, lI_sub, lI_mul, jadd, jsub, jmul, jneg, jtol, b010, b011, pv_2t, Int.toNat_natCast, Option.some.injEq, exists_eq_left', if_true, if_false]
          refine vs_ok 10 ?_
          rw [show ((gRes 34).drop 51).take 10 = [.aload 0, .getfield 3002, .iload 3, .dup2, .iaload, .iconst 1, .iload 2, .ishl, .ior, .iastore] from rfl]
          simp (disch := omega) only [vs_iconst, vs_getfield, vs_iaload, vs_iastore, vs_dup2, vs_aload0, vs_iload2, vs_iload3, vs_nil, gv_0, gv_1, gv_2, gv_3, pv_0, pv_1, va_rf_s, vs_ior, vs_ishl, Nat.reduceDiv, Nat.reduceMod, Nat.reduceAdd, Nat.reduceMul, Int.reduceToNat, true_and, and_true, and_self, cP_eq, cP_ne, cP_lt, cP_ge, cP_gt, cP_le, eL_i, eL_l, eL_r, eL_n, Option.toList_none, Option.toList_some, List.nil_append, List.cons_append, kkI, llI, nnI, rrI, jjI, kkJ, llJ, nnJ, rrJ, iiJ, zIIs, zJJs, nEF, nET, and_false, false_and, jmin, jmax, catS_n, catS_i, catS_r, catS_l, Nat.reduceLeDiff, j1eq1, n21, jt0, jt1, Bool.false_eq_true, Classical.not_not, true_or, or_true, false_or, or_false, true_imp_iff, false_imp_iff, not_true_eq_false, not_false_eq_true, jif0, jif1, jifb, ltT, ltF, leT, leF, eqT, eqF, jlt, jle, jeq, jlt0, jle0, jeq0, jge0, jgt0, jinB, jnat, clt, cle, ceq, cgt, cge, lI_add, lI_sub, lI_mul, jadd, jsub, jmul, jneg, jtol, b010, b011, pv_2t, Int.toNat_natCast, Option.some.injEq, exists_eq_left', if_true, if_false, nF gn.1, (gn.2.2.2 b (by omega)).2, jshl1, jor]
          exact nxt _ _ _ _ (f.I (Or.inr rfl)) (by rw [zI_s, if_neg (by omega)]; exact h3) p1 p2
        · refine vs_ok 5 ?_
          rw [show ((gRes 34).drop 31).take 5 = [.lstore 4, .lload 4, .jsr_w 0, .lcmp, .ifCond .le 47] from rfl]
          simp (disch := omega) only [vs_lcmp, vs_jsr_w, vs_ifCond, vs_lload4, vs_lstore4n, vs_lstore4i, vs_lstore4r, vs_lstore4l, vs_nil, gv_0, gv_1, gv_2, gv_3, pv_0, pv_1, va_rf_s, Nat.reduceDiv, Nat.reduceMod, Nat.reduceAdd, Nat.reduceMul, Int.reduceToNat, true_and, and_true, and_self, cP_eq, cP_ne, cP_lt, cP_ge, cP_gt, cP_le, eL_i, eL_l, eL_r, eL_n, Option.toList_none, Option.toList_some, List.nil_append, List.cons_append, kkI, llI, nnI, rrI, jjI, kkJ, llJ, nnJ, rrJ, iiJ, zIIs, zJJs, nEF, nET, and_false, false_and, jmin, jmax, catS_n, catS_i, catS_r, catS_l, Nat.reduceLeDiff, j1eq1, n21, jt0, jt1, Bool.false_eq_true, Classical.not_not, true_or, or_true, false_or, or_false, true_imp_iff, false_imp_iff, not_true_eq_false, not_false_eq_true, jif0, jif1, jifb, ltT, ltF, leT, leF, eqT, eqF, jlt, jle, jeq, jlt0, jle0, jeq0, jge0, jgt0, jinB, jnat, clt, cle, ceq, cgt, cge, lI_add, lI_sub, lI_mul, jadd, jsub, jmul, jneg, jtol, b010, b011, pv_2t, Int.toNat_natCast, Option.some.injEq, exists_eq_left', if_true, if_false]
          refine vs_ok 4 ?_
          rw [show ((gRes 34).drop 47).take 4 = [.lload 4, .jsr_w 0, .lcmp, .ifCond .ge 61] from rfl]
          simp (disch := omega) only [vs_lcmp, vs_jsr_w, vs_ifCond, vs_lload4, vs_nil, gv_0, gv_1, gv_2, gv_3, pv_0, pv_1, va_rf_s, Nat.reduceDiv, Nat.reduceMod, Nat.reduceAdd, Nat.reduceMul, Int.reduceToNat, true_and, and_true, and_self, cP_eq, cP_ne, cP_lt, cP_ge, cP_gt, cP_le, eL_i, eL_l, eL_r, eL_n, Option.toList_none, Option.toList_some, List.nil_append, List.cons_append, kkI, llI, nnI, rrI, jjI, kkJ, llJ, nnJ, rrJ, iiJ, zIIs, zJJs, nEF, nET, and_false, false_and, jmin, jmax, catS_n, catS_i, catS_r, catS_l, Nat.reduceLeDiff, j1eq1, n21, jt0, jt1, Bool.false_eq_true, Classical.not_not, true_or, or_true, false_or, or_false, true_imp_iff, false_imp_iff, not_true_eq_false, not_false_eq_true, jif0, jif1, jifb, ltT, ltF, leT, leF, eqT, eqF, jlt, jle, jeq, jlt0, jle0, jeq0, jge0, jgt0, jinB, jnat, clt, cle, ceq, cgt, cge, lI_add, lI_sub, lI_mul, jadd, jsub, jmul, jneg, jtol, b010, b011, pv_2t, Int.toNat_natCast, Option.some.injEq, exists_eq_left', if_true, if_false]
          refine nxt _ _ _ _ f h3 gn ⟨hr.1, fun i hi j => ?_⟩
          rw [hr.2 i hi j]
          apply decide_eq_decide.mpr
          constructor
          · rintro ⟨z1, z2, z3, z4⟩
            exact ⟨z1, z2, by omega, z4⟩
          · rintro ⟨z1, z2, z3, z4⟩
            refine ⟨z1, z2, ?_, z4⟩
            by_cases c2 : min i j = a ∧ max i j = b
            · exfalso
              rcases z4 with ⟨y1, y2⟩ | ⟨y1, y2⟩
              · have e1 : i = a := by omega
                have e2 : j = b := by omega
                rw [e1, e2] at y2
                change 0 < ldV (V a).2.2.2 (V b).2.2.2 at y2
                omega
              · have e1 : i = b := by omega
                have e2 : j = a := by omega
                rw [e1, e2] at y2
                change ldV (V a).2.2.2 (V b).2.2.2 < 0 at y2
                omega
            · omega
  have la : ∀ (k a : Nat) (bt : Nat → Nat) (g : Hp) (o3 o4 o5 : Option Value), k + a = nm → fi (fun q => q = x ∨ q = x + 1) h g → zI g x 3 = zI h x 3 → netC g x nm bt → rdP (fun a b => ldV (V a).2.2.2 (V b).2.2.2) nm a 0 bt → PW (d + 2) 34 12 [some (.ref x), some (.ref t), some (.int (iI a)), o3, o4, o5] [] g Q := by
    intro k
    induction k with
    | zero =>
      intro a bt g o3 o4 o5 hk f h3 gn hr
      have e : a = nm := by omega
      subst e
      refine vs_ok 4 ?_
      rw [show ((gRes 34).drop 12).take 4 = [.iload 2, .aload 0, .getfield 3040, .if_icmp .ge 65] from rfl]
      simp (disch := omega) only [vs_if_icmp, vs_getfield, vs_aload0, vs_iload2, vs_nil, gv_0, gv_1, gv_2, gv_3, pv_0, pv_1, va_rf_s, Nat.reduceDiv, Nat.reduceMod, Nat.reduceAdd, Nat.reduceMul, Int.reduceToNat, true_and, and_true, and_self, cP_eq, cP_ne, cP_lt, cP_ge, cP_gt, cP_le, eL_i, eL_l, eL_r, eL_n, Option.toList_none, Option.toList_some, List.nil_append, List.cons_append, kkI, llI, nnI, rrI, jjI, kkJ, llJ, nnJ, rrJ, iiJ, zIIs, zJJs, nEF, nET, and_false, false_and, jmin, jmax, catS_n, catS_i, catS_r, catS_l, Nat.reduceLeDiff, j1eq1, n21, jt0, jt1, Bool.false_eq_true, Classical.not_not, true_or, or_true, false_or, or_false, true_imp_iff, false_imp_iff, not_true_eq_false, not_false_eq_true, jif0, jif1, jifb, ltT, ltF, leT, leF, eqT, eqF, jlt, jle, jeq, jlt0, jle0, jeq0, jge0, jgt0, jinB, jnat, clt, cle, ceq, cgt, cge, lI_add, lI_sub, lI_mul, jadd, jsub, jmul, jneg, jtol, b010, b011, pv_2t, Int.toNat_natCast, Option.some.injEq, exists_eq_left', if_true, if_false, nF gn.1, gn.2.2.1]
      refine vs_ok 1 ?_
      rw [show ((gRes 34).drop 65).take 1 = [.return_] from rfl]
      simp (disch := omega) only [vs_return_, vs_nil, gv_0, gv_1, gv_2, gv_3, pv_0, pv_1, va_rf_s, Nat.reduceDiv, Nat.reduceMod, Nat.reduceAdd, Nat.reduceMul, Int.reduceToNat, true_and, and_true, and_self, cP_eq, cP_ne, cP_lt, cP_ge, cP_gt, cP_le, eL_i, eL_l, eL_r, eL_n, Option.toList_none, Option.toList_some, List.nil_append, List.cons_append, kkI, llI, nnI, rrI, jjI, kkJ, llJ, nnJ, rrJ, iiJ, zIIs, zJJs, nEF, nET, and_false, false_and, jmin, jmax, catS_n, catS_i, catS_r, catS_l, Nat.reduceLeDiff, j1eq1, n21, jt0, jt1, Bool.false_eq_true, Classical.not_not, true_or, or_true, false_or, or_false, true_imp_iff, false_imp_iff, not_true_eq_false, not_false_eq_true, jif0, jif1, jifb, ltT, ltF, leT, leF, eqT, eqF, jlt, jle, jeq, jlt0, jle0, jeq0, jge0, jgt0, jinB, jnat, clt, cle, ceq, cgt, cge, lI_add, lI_sub, lI_mul, jadd, jsub, jmul, jneg, jtol, b010, b011, pv_2t, Int.toNat_natCast, Option.some.injEq, exists_eq_left', if_true, if_false, show gRc 34 = 0 from rfl]
      exact hq g bt f h3 gn hr
    | succ k ih =>
      intro a bt g o3 o4 o5 hk f h3 gn hr
      refine vs_ok 8 ?_
      rw [show ((gRes 34).drop 12).take 8 = [.iload 2, .aload 0, .getfield 3040, .if_icmp .ge 65, .iload 2, .iconst 1, .iadd, .istore 3] from rfl]
      simp (disch := omega) only [vs_iadd, vs_iconst, vs_if_icmp, vs_getfield, vs_aload0, vs_iload2, vs_istore3n, vs_istore3i, vs_istore3r, vs_istore3l, vs_nil, gv_0, gv_1, gv_2, gv_3, pv_0, pv_1, va_rf_s, Nat.reduceDiv, Nat.reduceMod, Nat.reduceAdd, Nat.reduceMul, Int.reduceToNat, true_and, and_true, and_self, cP_eq, cP_ne, cP_lt, cP_ge, cP_gt, cP_le, eL_i, eL_l, eL_r, eL_n, Option.toList_none, Option.toList_some, List.nil_append, List.cons_append, kkI, llI, nnI, rrI, jjI, kkJ, llJ, nnJ, rrJ, iiJ, zIIs, zJJs, nEF, nET, and_false, false_and, jmin, jmax, catS_n, catS_i, catS_r, catS_l, Nat.reduceLeDiff, j1eq1, n21, jt0, jt1, Bool.false_eq_true, Classical.not_not, true_or, or_true, false_or, or_false, true_imp_iff, false_imp_iff, not_true_eq_false, not_false_eq_true, jif0, jif1, jifb, ltT, ltF, leT, leF, eqT, eqF, jlt, jle, jeq, jlt0, jle0, jeq0, jge0, jgt0, jinB, jnat, clt, cle, ceq, cgt, cge, lI_add, lI_sub, lI_mul, jadd, jsub, jmul, jneg, jtol, b010, b011, pv_2t, Int.toNat_natCast, Option.some.injEq, exists_eq_left', if_true, if_false, nF gn.1, gn.2.2.1]
      refine lb a (by omega) (nm - (a + 1)) (a + 1) bt g _ _ (by omega) (by omega) f h3 gn ⟨hr.1, fun i hi j => ?_⟩ fun bt g o3 o4 o5 f h3 gn hr => ?_
      · rw [hr.2 i hi j]
        apply decide_eq_decide.mpr
        constructor
        · rintro ⟨z1, z2, z3, z4⟩
          exact ⟨z1, z2, by omega, z4⟩
        · rintro ⟨z1, z2, z3, z4⟩
          exact ⟨z1, z2, by omega, z4⟩
      · refine vs_ok 2 ?_
        rw [show ((gRes 34).drop 63).take 2 = [.iinc 2 1, .goto 12] from rfl]
        simp (disch := omega) only [vs_goto, vs_iinc2n, vs_iinc2i, vs_iinc2r, vs_iinc2l, vs_nil, gv_0, gv_1, gv_2, gv_3, pv_0, pv_1, va_rf_s, Nat.reduceDiv, Nat.reduceMod, Nat.reduceAdd, Nat.reduceMul, Int.reduceToNat, true_and, and_true, and_self, cP_eq, cP_ne, cP_lt, cP_ge, cP_gt, cP_le, eL_i, eL_l, eL_r, eL_n, Option.toList_none, Option.toList_some, List.nil_append, List.cons_append, kkI, llI, nnI, rrI, jjI, kkJ, llJ, nnJ, rrJ, iiJ, zIIs, zJJs, nEF, nET, and_false, false_and, jmin, jmax, catS_n, catS_i, catS_r, catS_l, Nat.reduceLeDiff, j1eq1, n21, jt0, jt1, Bool.false_eq_true, Classical.not_not, true_or, or_true, false_or, or_false, true_imp_iff, false_imp_iff, not_true_eq_false, not_false_eq_true, jif0, jif1, jifb, ltT, ltF, leT, leF, eqT, eqF, jlt, jle, jeq, jlt0, jle0, jeq0, jge0, jgt0, jinB, jnat, clt, cle, ceq, cgt, cge, lI_add, lI_sub, lI_mul, jadd, jsub, jmul, jneg, jtol, b010, b011, pv_2t, Int.toNat_natCast, Option.some.injEq, exists_eq_left', if_true, if_false]
        refine ih (a + 1) bt g _ _ _ (by omega) f h3 gn ⟨hr.1, fun i hi j => ?_⟩
        rw [hr.2 i hi j]
        apply decide_eq_decide.mpr
        constructor
        · rintro ⟨z1, z2, z3, z4⟩
          exact ⟨z1, z2, by omega, z4⟩
        · rintro ⟨z1, z2, z3, z4⟩
          exact ⟨z1, z2, by omega, z4⟩
  refine vs_ok 6 ?_
  rw [show ((gRes 34).drop 0).take 6 = [.aload 0, .aload 1, .getfield 7030, .iconst 12, .invokedynamic 3, .putfield 3040] from rfl]
  simp (disch := omega) only [vs_iconst, vs_getfield, vs_putfield, vs_aload0, vs_aload1, vs_nil, gv_0, gv_1, gv_2, gv_3, pv_0, pv_1, va_rf_s, vs_abs, vs_max, vs_min, vs_oinit, Nat.reduceDiv, Nat.reduceMod, Nat.reduceAdd, Nat.reduceMul, Int.reduceToNat, true_and, and_true, and_self, cP_eq, cP_ne, cP_lt, cP_ge, cP_gt, cP_le, eL_i, eL_l, eL_r, eL_n, Option.toList_none, Option.toList_some, List.nil_append, List.cons_append, kkI, llI, nnI, rrI, jjI, kkJ, llJ, nnJ, rrJ, iiJ, zIIs, zJJs, nEF, nET, and_false, false_and, jmin, jmax, catS_n, catS_i, catS_r, catS_l, Nat.reduceLeDiff, j1eq1, n21, jt0, jt1, Bool.false_eq_true, Classical.not_not, true_or, or_true, false_or, or_false, true_imp_iff, false_imp_iff, not_true_eq_false, not_false_eq_true, jif0, jif1, jifb, ltT, ltF, leT, leF, eqT, eqF, jlt, jle, jeq, jlt0, jle0, jeq0, jge0, jgt0, jinB, jnat, clt, cle, ceq, cgt, cge, lI_add, lI_sub, lI_mul, jadd, jsub, jmul, jneg, jtol, b010, b011, pv_2t, Int.toNat_natCast, Option.some.injEq, exists_eq_left', if_true, if_false, ho.1, tk, t6, show min (nm : Int) 12 = (nm : Int) by omega, show x < zN h from by have := ho.2.1; omega]
  have f0 : fi (fun q => q = x) h (zsI h x 4 (iI nm)) := fi_I rfl
  have n0 := nF (ho.fi f0)
  have z3 : zI (zsI h x 4 (iI nm)) x 3 = zI h x 3 := by rw [zI_s, if_neg (by omega)]
  have z4 : zI (zsI h x 4 (iI nm)) x 4 = iI nm := by rw [zI_s, if_pos ⟨rfl, rfl⟩]
  have ho0 := ho.fi f0
  generalize zsI h x 4 (iI nm) = g0 at *
  refine vs_ok 3 ?_
  rw [show ((gRes 34).drop 6).take 3 = [.aload 0, .getfield 3002, .iconst 0] from rfl]
  simp (disch := omega) only [vs_iconst, vs_getfield, vs_aload0, vs_nil, gv_0, gv_1, gv_2, gv_3, pv_0, pv_1, va_rf_s, Nat.reduceDiv, Nat.reduceMod, Nat.reduceAdd, Nat.reduceMul, Int.reduceToNat, true_and, and_true, and_self, cP_eq, cP_ne, cP_lt, cP_ge, cP_gt, cP_le, eL_i, eL_l, eL_r, eL_n, Option.toList_none, Option.toList_some, List.nil_append, List.cons_append, kkI, llI, nnI, rrI, jjI, kkJ, llJ, nnJ, rrJ, iiJ, zIIs, zJJs, nEF, nET, and_false, false_and, jmin, jmax, catS_n, catS_i, catS_r, catS_l, Nat.reduceLeDiff, j1eq1, n21, jt0, jt1, Bool.false_eq_true, Classical.not_not, true_or, or_true, false_or, or_false, true_imp_iff, false_imp_iff, not_true_eq_false, not_false_eq_true, jif0, jif1, jifb, ltT, ltF, leT, leF, eqT, eqF, jlt, jle, jeq, jlt0, jle0, jeq0, jge0, jgt0, jinB, jnat, clt, cle, ceq, cgt, cge, lI_add, lI_sub, lI_mul, jadd, jsub, jmul, jneg, jtol, b010, b011, pv_2t, Int.toNat_natCast, Option.some.injEq, exists_eq_left', if_true, if_false, n0]
  refine PW.ss (r := []) rfl (le_b rfl) rfl rfl (le_b rfl) (le_b rfl) ?_
  refine t_fillI n0.2.1.2.1 n0.2.1.2.2.1 n0.2.1.2.2.2 (by omega) fun g f hI => ⟨rfl, ⟨f.1.2.2.1, rfl⟩, ?_⟩
  refine vs_ok 2 ?_
  rw [show ((gRes 34).drop 10).take 2 = [.iconst 0, .istore 2] from rfl]
  simp (disch := omega) only [vs_iconst, vs_istore2n, vs_istore2i, vs_istore2r, vs_istore2l, vs_nil, gv_0, gv_1, gv_2, gv_3, pv_0, pv_1, va_rf_s, Nat.reduceDiv, Nat.reduceMod, Nat.reduceAdd, Nat.reduceMul, Int.reduceToNat, true_and, and_true, and_self, cP_eq, cP_ne, cP_lt, cP_ge, cP_gt, cP_le, eL_i, eL_l, eL_r, eL_n, Option.toList_none, Option.toList_some, List.nil_append, List.cons_append, kkI, llI, nnI, rrI, jjI, kkJ, llJ, nnJ, rrJ, iiJ, zIIs, zJJs, nEF, nET, and_false, false_and, jmin, jmax, catS_n, catS_i, catS_r, catS_l, Nat.reduceLeDiff, j1eq1, n21, jt0, jt1, Bool.false_eq_true, Classical.not_not, true_or, or_true, false_or, or_false, true_imp_iff, false_imp_iff, not_true_eq_false, not_false_eq_true, jif0, jif1, jifb, ltT, ltF, leT, leF, eqT, eqF, jlt, jle, jeq, jlt0, jle0, jeq0, jge0, jgt0, jinB, jnat, clt, cle, ceq, cgt, cge, lI_add, lI_sub, lI_mul, jadd, jsub, jmul, jneg, jtol, b010, b011, pv_2t, Int.toNat_natCast, Option.some.injEq, exists_eq_left', if_true, if_false]
  have gI : zI g x = zI g0 x := f.1.2.2.2.2.2.1 x (by omega)
  refine la nm 0 (fun _ => 0) g _ _ _ (by omega) ((f0.wk fun q z => Or.inl z).tr (f.wk fun q z => Or.inr z)) (by rw [gI]; exact z3) ⟨ho0.fi f, hnm, by rw [gI]; exact z4, fun i hi => ⟨(by decide : (0 : Nat) < 4096), hI i hi⟩⟩ ⟨fun i hi => (by decide : (0 : Nat) < 4096), fun i hi j => ?_⟩
  rw [Nat.zero_testBit]
  exact (decide_eq_false fun z => by omega).symm
