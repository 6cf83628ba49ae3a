/-! Arrays.fill once more (no reference changes); Net: walkBack -/
theorem t_fillI {d : Nat} {h : Hp} {a n : Nat} {v : Int32} {Q : Nat → Option Value → Hp → Prop} (h1 : zK h a = 14) (h2 : a < zN h) (h3 : zL h a = n) (hn : n ≤ 1000000)
    (hq : ∀ h', fi (fun q => q = a) h h' → (∀ i, i < n → zI h' a i = v) → Q 0 none h') : PR d m_Arrays_fill [.ref a, .int v] h Q := by
  show PW d 275 0 [some (.ref a), some (.int v), none, none] [] h Q
  have lp : ∀ (k i : Nat) (g : Hp), k + i = n → fi (fun q => q = a) h g → (∀ j, j < i → zI g a j = v) → PW d 275 5 [some (.ref a), some (.int v), some (.int (iI i)), some (.int (iI n))] [] g Q := by
    intro k
    induction k with
    | zero =>
      intro i g hk f hI
      have e : i = n := by omega
      subst e
      refine vs_ok 3 ?_
      rw [show ((gRes 275).drop 5).take 3 = [.iload 2, .iload 3, .if_icmp .ge 14] from rfl]
      simp (disch := omega) only [vs_if_icmp, vs_iload2, vs_iload3, vs_nil, gv_0, gv_1, gv_2, gv_3, pv_0, pv_1, va_rf_s, Nat.reduceDiv, Nat.reduceMod, Nat.reduceAdd, Nat.reduceMul, Int.reduceToNat, true_and, and_true, and_self, cP_eq, cP_ne, cP_lt, cP_ge, cP_gt, cP_le, eL_i, eL_l, eL_r, eL_n, Option.toList_none, Option.toList_some, List.nil_append, List.cons_append, kkI, llI, nnI, rrI, jjI, kkJ, llJ, nnJ, rrJ, iiJ, zIIs, zJJs, nEF, nET, and_false, false_and, jmin, jmax, catS_n, catS_i, catS_r, catS_l, Nat.reduceLeDiff, j1eq1, n21, jt0, jt1, Bool.false_eq_true, Classical.not_not, true_or, or_true, false_or, or_false, true_imp_iff, false_imp_iff, not_true_eq_false, not_false_eq_true, jif0, jif1, jifb, ltT, ltF, leT, leF, eqT, eqF, jlt, jle, jeq, jlt0, jle0, jeq0, jge0, jgt0, jinB, jnat, clt, cle, ceq, cgt, cge, lI_add, lI_sub, lI_mul, jadd, jsub, jmul, jneg, jtol, b010, b011, pv_2t, Int.toNat_natCast, Option.some.injEq, exists_eq_left', if_true, if_false]
      refine vs_ok 1 ?_
      rw [show ((gRes 275).drop 14).take 1 = [.return_] from rfl]
      simp (disch := omega) only [vs_return_, vs_nil, gv_0, gv_1, gv_2, gv_3, pv_0, pv_1, va_rf_s, Nat.reduceDiv, Nat.reduceMod, Nat.reduceAdd, Nat.reduceMul, Int.reduceToNat, true_and, and_true, and_self, cP_eq, cP_ne, cP_lt, cP_ge, cP_gt, cP_le, eL_i, eL_l, eL_r, eL_n, Option.toList_none, Option.toList_some, List.nil_append, List.cons_append, kkI, llI, nnI, rrI, jjI, kkJ, llJ, nnJ, rrJ, iiJ, zIIs, zJJs, nEF, nET, and_false, false_and, jmin, jmax, catS_n, catS_i, catS_r, catS_l, Nat.reduceLeDiff, j1eq1, n21, jt0, jt1, Bool.false_eq_true, Classical.not_not, true_or, or_true, false_or, or_false, true_imp_iff, false_imp_iff, not_true_eq_false, not_false_eq_true, jif0, jif1, jifb, ltT, ltF, leT, leF, eqT, eqF, jlt, jle, jeq, jlt0, jle0, jeq0, jge0, jgt0, jinB, jnat, clt, cle, ceq, cgt, cge, lI_add, lI_sub, lI_mul, jadd, jsub, jmul, jneg, jtol, b010, b011, pv_2t, Int.toNat_natCast, Option.some.injEq, exists_eq_left', if_true, if_false, show gRc 275 = 0 from rfl]
      exact hq g f hI
    | succ k ih =>
      intro i g hk f hI
      refine vs_ok 9 ?_
      rw [show ((gRes 275).drop 5).take 9 = [.iload 2, .iload 3, .if_icmp .ge 14, .aload 0, .iload 2, .iload 1, .iastore, .iinc 2 1, .goto 5] from rfl]
      simp (disch := omega) only [vs_goto, vs_if_icmp, vs_iastore, vs_aload0, vs_iload1, vs_iload2, vs_iinc2n, vs_iinc2i, vs_iinc2r, vs_iinc2l, vs_iload3, vs_nil, gv_0, gv_1, gv_2, gv_3, pv_0, pv_1, va_rf_s, Nat.reduceDiv, Nat.reduceMod, Nat.reduceAdd, Nat.reduceMul, Int.reduceToNat, true_and, and_true, and_self, cP_eq, cP_ne, cP_lt, cP_ge, cP_gt, cP_le, eL_i, eL_l, eL_r, eL_n, Option.toList_none, Option.toList_some, List.nil_append, List.cons_append, kkI, llI, nnI, rrI, jjI, kkJ, llJ, nnJ, rrJ, iiJ, zIIs, zJJs, nEF, nET, and_false, false_and, jmin, jmax, catS_n, catS_i, catS_r, catS_l, Nat.reduceLeDiff, j1eq1, n21, jt0, jt1, Bool.false_eq_true, Classical.not_not, true_or, or_true, false_or, or_false, true_imp_iff, false_imp_iff, not_true_eq_false, not_false_eq_true, jif0, jif1, jifb, ltT, ltF, leT, leF, eqT, eqF, jlt, jle, jeq, jlt0, jle0, jeq0, jge0, jgt0, jinB, jnat, clt, cle, ceq, cgt, cge, lI_add, lI_sub, lI_mul, jadd, jsub, jmul, jneg, jtol, b010, b011, pv_2t, Int.toNat_natCast, Option.some.injEq, exists_eq_left', if_true, if_false, f.1.1, f.1.2.1, f.1.2.2.1, h1, h2, h3]
      refine ih (i + 1) _ (by omega) (f.I rfl) fun j hj => ?_
      rw [zI_s]
      by_cases c : j = i
      · rw [if_pos ⟨rfl, c⟩]
      · rw [if_neg (fun z => c z.2), hI j (by omega)]
  refine vs_ok 5 ?_
  rw [show ((gRes 275).drop 0).take 5 = [.iconst 0, .istore 2, .aload 0, .arraylength, .istore 3] from rfl]
  simp (disch := omega) only [vs_iconst, vs_arraylength, vs_aload0, vs_istore2n, vs_istore2i, vs_istore2r, vs_istore2l, vs_istore3n, vs_istore3i, vs_istore3r, vs_istore3l, vs_nil, gv_0, gv_1, gv_2, gv_3, pv_0, pv_1, va_rf_s, Nat.reduceDiv, Nat.reduceMod, Nat.reduceAdd, Nat.reduceMul, Int.reduceToNat, true_and, and_true, and_self, cP_eq, cP_ne, cP_lt, cP_ge, cP_gt, cP_le, eL_i, eL_l, eL_r, eL_n, Option.toList_none, Option.toList_some, List.nil_append, List.cons_append, kkI, llI, nnI, rrI, jjI, kkJ, llJ, nnJ, rrJ, iiJ, zIIs, zJJs, nEF, nET, and_false, false_and, jmin, jmax, catS_n, catS_i, catS_r, catS_l, Nat.reduceLeDiff, j1eq1, n21, jt0, jt1, Bool.false_eq_true, Classical.not_not, true_or, or_true, false_or, or_false, true_imp_iff, false_imp_iff, not_true_eq_false, not_false_eq_true, jif0, jif1, jifb, ltT, ltF, leT, leF, eqT, eqF, jlt, jle, jeq, jlt0, jle0, jeq0, jge0, jgt0, jinB, jnat, clt, cle, ceq, cgt, cge, lI_add, lI_sub, lI_mul, jadd, jsub, jmul, jneg, jtol, b010, b011, pv_2t, Int.toNat_natCast, Option.some.injEq, exists_eq_left', if_true, if_false, h1, h2, h3, or_true, true_or, show Int32.ofNat n = iI n from nI_iI n]
  exact lp n 0 h (by omega) fi.rf fun j hj => absurd hj (by omega)
def wbI (bt : Nat → Nat) (edge k : Nat) : Nat → Nat → (Nat → Nat) → Nat → (Nat → Nat) × Nat
  | 0, _, st, re => (st, re)
  | c + 1, v, st, re => if st v = 0 ∧ bt v &&& edge ≠ 0 then wbI bt edge k c (v + 1) (fun i => if i = v then k else st i) (re ||| 2 ^ v) else wbI bt edge k c (v + 1) st re
def wbO (bt : Nat → Nat) (nm s : Nat) : Nat → Nat → Nat → (Nat → Nat) → Nat × (Nat → Nat)
  | 0, _, _, st => (0, st)
  | f + 1, k, edge, st => if edge = 0 then (0, st) else if bt s &&& (wbI bt edge k (nm - (s + 1)) (s + 1) st 0).2 ≠ 0 then (k + 1, (wbI bt edge k (nm - (s + 1)) (s + 1) st 0).1) else wbO bt nm s f (k + 1) (wbI bt edge k (nm - (s + 1)) (s + 1) st 0).2 (wbI bt edge k (nm - (s + 1)) (s + 1) st 0).1
abbrev wbF (bt : Nat → Nat) (nm s : Nat) : Nat × (Nat → Nat) := wbO bt nm s (nm - 1) 1 (2 ^ s) fun _ => 0
theorem wbI_lt {bt : Nat → Nat} {edge k : Nat} (hk : k ≤ 12) : ∀ (c v : Nat) (st : Nat → Nat) (re : Nat), c + v ≤ 12 → re < 4096 → (∀ i, st i ≤ 12) → (wbI bt edge k c v st re).2 < 4096 ∧ ∀ i, (wbI bt edge k c v st re).1 i ≤ 12
  | 0, _, _, _, _, h, h2 => ⟨h, h2⟩
  | c + 1, v, st, re, hc, h, h2 => by
    unfold wbI
    split
    · refine wbI_lt hk c (v + 1) _ _ (by omega) (or_lt h (p2_12 (by omega))) fun i => ?_
      show (if i = v then k else st i) ≤ 12
      split
      · exact hk
      · exact h2 i
    · exact wbI_lt hk c (v + 1) _ _ (by omega) h h2
theorem t_walkBack {d : Nat} {h : Hp} {x nm s : Nat} {bt : Nat → Nat} {Q : Nat → Option Value → Hp → Prop} (hn : netC h x nm bt) (hs : s < nm)
    (hq : ∀ h', fi (fun q => q = x + 2) h h' → (∀ i, i < 12 → zI h' (x + 2) i = iI ((wbF bt nm s).2 i)) → Q 0 (some (.int (iI (wbF bt nm s).1))) h') : PR (d + 1) m_Net_walkBack [.ref x, .int (iI s)] h Q := by
  obtain ⟨ho, hnm, h4, hb4⟩ := id hn
  have N := nF ho
  have nx : ¬ x = x + 2 := by omega
  have ny : ¬ x + 1 = x + 2 := by omega
  have kn : ∀ g, fi (fun q => q = x + 2) h g → netC g x nm bt := fun g f => hn.fi f (by rw [f.1.2.2.2.2.2.1 x nx]) ny
  show PW (d + 1) 38 0 [some (.ref x), some (.int (iI s)), none, none, none, none] [] h Q
  have li : ∀ (k edge : Nat), 1 ≤ k → k ≤ 12 → edge < 4096 → ∀ (c v : Nat) (st : Nat → Nat) (re : Nat) (g : Hp), c + v = nm → re < 4096 → (∀ i, st i ≤ 12) → fi (fun q => q = x + 2) h g → (∀ i, i < 12 → zI g (x + 2) i = iI (st i)) → (∀ g', fi (fun q => q = x + 2) h g' → (∀ i, i < 12 → zI g' (x + 2) i = iI ((wbI bt edge k c v st re).1 i)) → ∀ o, PW (d + 1) 38 51 [some (.ref x), some (.int (iI s)), some (.int (iI edge)), some (.int (iI k)), some (.int (iI (wbI bt edge k c v st re).2)), o] [] g' Q) → PW (d + 1) 38 22 [some (.ref x), some (.int (iI s)), some (.int (iI edge)), some (.int (iI k)), some (.int (iI re)), some (.int (iI v))] [] g Q := by
    intro k edge hk1 hk2 hed c
    induction c with
    | zero =>
      intro v st re g hv hre hst f hI K
      have gn := kn g f
      refine vs_ok 4 ?_
      rw [show ((gRes 38).drop 22).take 4 = [.iload 5, .aload 0, .getfield 3040, .if_icmp .ge 51] from rfl]
      simp (disch := omega) only [vs_if_icmp, vs_getfield, vs_aload0, vs_iload5, vs_nil, gv_0, gv_1, gv_2, gv_3, pv_0, pv_1, va_rf_s, Nat.reduceDiv, Nat.reduceMod, Nat.reduceAdd, Nat.reduceMul, Int.reduceToNat, true_and, and_true, and_self, cP_eq, cP_ne, cP_lt, cP_ge, cP_gt, cP_le, eL_i, eL_l, eL_r, eL_n, Option.toList_none, Option.toList_some, List.nil_append, List.cons_append, kkI, llI, nnI, rrI, jjI, kkJ, llJ, nnJ, rrJ, iiJ, zIIs, zJJs, nEF, nET, and_false, false_and, jmin, jmax, catS_n, catS_i, catS_r, catS_l, Nat.reduceLeDiff, j1eq1, n21, jt0, jt1, Bool.false_eq_true, Classical.not_not, true_or, or_true, false_or, or_false, true_imp_iff, false_imp_iff, not_true_eq_false, not_false_eq_true, jif0, jif1, jifb, ltT, ltF, leT, leF, eqT, eqF, jlt, jle, jeq, jlt0, jle0, jeq0, jge0, jgt0, jinB, jnat, clt, cle, ceq, cgt, cge, lI_add, lI_sub, lI_mul, jadd, jsub, jmul, jneg, jtol, b010, b011, pv_2t, Int.toNat_natCast, Option.some.injEq, exists_eq_left', if_true, if_false, nF gn.1, gn.2.2.1]
      exact K g f hI _
    | succ c ih =>
      intro v st re g hv hre hst f hI K
      have gn := kn g f
      have hsv := hst v
      have b1 := and_lt (b := edge) (hb4 v (by omega)).1
      have ef : wbI bt edge k (c + 1) v st re = if st v = 0 ∧ bt v &&& edge ≠ 0 then wbI bt edge k c (v + 1) (fun i => if i = v then k else st i) (re ||| 2 ^ v) else wbI bt edge k c (v + 1) st re := rfl
      rw [ef] at K
      have no : ¬ (st v = 0 ∧ bt v &&& edge ≠ 0) → PW (d + 1) 38 49 [some (.ref x), some (.int (iI s)), some (.int (iI edge)), some (.int (iI k)), some (.int (iI re)), some (.int (iI v))] [] g Q := fun z => by
        rw [if_neg z] at K
        refine vs_ok 2 ?_
        rw [show ((gRes 38).drop 49).take 2 = [.iinc 5 1, .goto 22] from rfl]
        simp (disch := omega) only [vs_goto, vs_iinc5n, vs_iinc5i, vs_iinc5r, vs_iinc5l, vs_nil, gv_0, gv_1, gv_2, gv_3, pv_0, pv_1, va_rf_s, Nat.reduceDiv, Nat.reduceMod, Nat.reduceAdd, Nat.reduceMul, Int.reduceToNat, true_and, and_true, and_self, cP_eq, cP_ne, cP_lt, cP_ge, cP_gt, cP_le, eL_i, eL_l, eL_r, eL_n, Option.toList_none, Option.toList_some, List.nil_append, List.cons_append, kkI, llI, nnI, rrI, jjI, kkJ, llJ, nnJ, rrJ, iiJ, zIIs, zJJs, nEF, nET, and_false, false_and, jmin, jmax, catS_n, catS_i, catS_r, catS_l, Nat.reduceLeDiff, j1eq1, n21, jt0, jt1, Bool.false_eq_true, Classical.not_not, true_or, or_true, false_or, or_false, true_imp_iff, false_imp_iff, not_true_eq_false, not_false_eq_true, jif0, jif1, jifb, ltT, ltF, leT, leF, eqT, eqF, jlt, jle, jeq, jlt0, jle0, jeq0, jge0, jgt0, jinB, jnat, clt, cle, ceq, cgt, cge, lI_add, lI_sub, lI_mul, jadd, jsub, jmul, jneg, jtol, b010, b011, pv_2t, Int.toNat_natCast, Option.some.injEq, exists_eq_left', if_true, if_false]
        exact ih (v + 1) st re g (by omega) hre hst f hI K
      refine vs_ok 4 ?_
      rw [show ((gRes 38).drop 22).take 4 = [.iload 5, .aload 0, .getfield 3040, .if_icmp .ge 51] from rfl]
      simp (disch := omega) only [vs_if_icmp, vs_getfield, vs_aload0, vs_iload5, vs_nil, gv_0, gv_1, gv_2, gv_3, pv_0, pv_1, va_rf_s, Nat.reduceDiv, Nat.reduceMod, Nat.reduceAdd, Nat.reduceMul, Int.reduceToNat, true_and, and_true, and_self, cP_eq, cP_ne, cP_lt, cP_ge, cP_gt, cP_le, eL_i, eL_l, eL_r, eL_n, Option.toList_none, Option.toList_some, List.nil_append, List.cons_append, kkI, llI, nnI, rrI, jjI, kkJ, llJ, nnJ, rrJ, iiJ, zIIs, zJJs, nEF, nET, and_false, false_and, jmin, jmax, catS_n, catS_i, catS_r, catS_l, Nat.reduceLeDiff, j1eq1, n21, jt0, jt1, Bool.false_eq_true, Classical.not_not, true_or, or_true, false_or, or_false, true_imp_iff, false_imp_iff, not_true_eq_false, not_false_eq_true, jif0, jif1, jifb, ltT, ltF, leT, leF, eqT, eqF, jlt, jle, jeq, jlt0, jle0, jeq0, jge0, jgt0, jinB, jnat, clt, cle, ceq, cgt, cge, lI_add, lI_sub, lI_mul, jadd, jsub, jmul, jneg, jtol, b010, b011, pv_2t, Int.toNat_natCast, Option.some.injEq, exists_eq_left', if_true, if_false, nF gn.1, gn.2.2.1]
      by_cases c1 : st v = 0
      · by_cases c2 : bt v &&& edge = 0
        · refine vs_ok 25 ?_
          rw [show ((gRes 38).drop 26).take 25 = [.aload 0, .getfield 3012, .iload 5, .iaload, .ifCond .ne 49, .aload 0, .getfield 3002, .iload 5, .iaload, .iload 2, .iand, .ifCond .eq 49, .aload 0, .getfield 3012, .iload 5, .iload 3, .iastore, .iload 4, .iconst 1, .iload 5, .ishl, .ior, .istore 4, .iinc 5 1, .goto 22] from rfl]
          simp (disch := omega) only [vs_iconst, vs_goto, vs_ifCond, vs_getfield, vs_iaload, vs_iastore, vs_aload0, vs_iload2, vs_iload3, vs_iload4, vs_istore4n, vs_istore4i, vs_istore4r, vs_istore4l, vs_iload5, vs_iinc5n, vs_iinc5i, vs_iinc5r, vs_iinc5l, vs_nil, gv_0, gv_1, gv_2, gv_3, pv_0, pv_1, va_rf_s, vs_iand, vs_ior, vs_ishl, Nat.reduceDiv, Nat.reduceMod, Nat.reduceAdd, Nat.reduceMul, Int.reduceToNat, true_and, and_true, and_self, cP_eq, cP_ne, cP_lt, cP_ge, cP_gt, cP_le, eL_i, eL_l, eL_r, eL_n, Option.toList_none, Option.toList_some, List.nil_append, List.cons_append, kkI, llI, nnI, rrI, jjI, kkJ, llJ, nnJ, rrJ, iiJ, zIIs, zJJs, nEF, nET, and_false, false_and, jmin, jmax, catS_n, catS_i, catS_r, catS_l, Nat.reduceLeDiff, j1eq1, n21, jt0, jt1, Bool.false_eq_true, Classical.not_not, true_or, or_true, false_or, or_false, true_imp_iff, false_imp_iff, not_true_eq_false, not_false_eq_true, jif0, jif1, jifb, ltT, ltF, leT, leF, eqT, eqF, jlt, jle, jeq, jlt0, jle0, jeq0, jge0, jgt0, jinB, jnat, clt, cle, ceq, cgt, cge, lI_add, lI_sub, lI_mul, jadd, jsub, jmul, jneg, jtol, b010, b011, pv_2t, Int.toNat_natCast, Option.some.injEq, exists_eq_left', if_true, if_false, nF gn.1, hI v (by omega), (gn.2.2.2 v (by omega)).2, jand]
          exact no fun z => z.2 c2
        · rw [if_pos ⟨c1, c2⟩] at K
          have p1 := p2_12 (k := v) (by omega)
          refine vs_ok 25 ?_
          rw [show ((gRes 38).drop 26).take 25 = [.aload 0, .getfield 3012, .iload 5, .iaload, .ifCond .ne 49, .aload 0, .getfield 3002, .iload 5, .iaload, .iload 2, .iand, .ifCond .eq 49, .aload 0, .getfield 3012, .iload 5, .iload 3, .iastore, .iload 4, .iconst 1, .iload 5, .ishl, .ior, .istore 4, .iinc 5 1, .goto 22] from rfl]
          simp (disch := omega) only [vs_iconst, vs_goto, vs_ifCond, vs_getfield, vs_iaload, vs_iastore, vs_aload0, vs_iload2, vs_iload3, vs_iload4, vs_istore4n, vs_istore4i, vs_istore4r, vs_istore4l, vs_iload5, vs_iinc5n, vs_iinc5i, vs_iinc5r, vs_iinc5l, vs_nil, gv_0, gv_1, gv_2, gv_3, pv_0, pv_1, va_rf_s, vs_iand, vs_ior, vs_ishl, Nat.reduceDiv, Nat.reduceMod, Nat.reduceAdd, Nat.reduceMul, Int.reduceToNat, true_and, and_true, and_self, cP_eq, cP_ne, cP_lt, cP_ge, cP_gt, cP_le, eL_i, eL_l, eL_r, eL_n, Option.toList_none, Option.toList_some, List.nil_append, List.cons_append, kkI, llI, nnI, rrI, jjI, kkJ, llJ, nnJ, rrJ, iiJ, zIIs, zJJs, nEF, nET, and_false, false_and, jmin, jmax, catS_n, catS_i, catS_r, catS_l, Nat.reduceLeDiff, j1eq1, n21, jt0, jt1, Bool.false_eq_true, Classical.not_not, true_or, or_true, false_or, or_false, true_imp_iff, false_imp_iff, not_true_eq_false, not_false_eq_true, jif0, jif1, jifb, ltT, ltF, leT, leF, eqT, eqF, jlt, jle, jeq, jlt0, jle0, jeq0, jge0, jgt0, jinB, jnat, clt, cle, ceq, cgt, cge, lI_add, lI_sub, lI_mul, jadd, jsub, jmul, jneg, jtol, b010, b011, pv_2t, Int.toNat_natCast, Option.some.injEq, exists_eq_left', if_true, if_false, nF gn.1, hI v (by omega), (gn.2.2.2 v (by omega)).2, jand, jshl1, jor]
          refine ih (v + 1) _ _ _ (by omega) (or_lt hre p1) (fun i => ?_) (f.I rfl) (fun i hi => ?_) K
          · show (if i = v then k else st i) ≤ 12
            split
            · exact hk2
            · exact hst i
          · rw [zI_s]
            show _ = iI ((if i = v then k else st i : Nat))
            by_cases c : i = v
            · rw [if_pos ⟨rfl, c⟩, if_pos c]
            · rw [if_neg (fun z => c z.2), if_neg c, hI i hi]
      · refine vs_ok 25 ?_
        rw [show ((gRes 38).drop 26).take 25 = [.aload 0, .getfield 3012, .iload 5, .iaload, .ifCond .ne 49, .aload 0, .getfield 3002, .iload 5, .iaload, .iload 2, .iand, .ifCond .eq 49, .aload 0, .getfield 3012, .iload 5, .iload 3, .iastore, .iload 4, .iconst 1, .iload 5, .ishl, .ior, .istore 4, .iinc 5 1, .goto 22] from rfl]
        simp (disch := omega) only [vs_iconst, vs_goto, vs_ifCond, vs_getfield, vs_iaload, vs_iastore, vs_aload0, vs_iload2, vs_iload3, vs_iload4, vs_istore4n, vs_istore4i, vs_istore4r, vs_istore4l, vs_iload5, vs_iinc5n, vs_iinc5i, vs_iinc5r, vs_iinc5l, vs_nil, gv_0, gv_1, gv_2, gv_3, pv_0, pv_1, va_rf_s, vs_iand, vs_ior, vs_ishl, Nat.reduceDiv, Nat.reduceMod, Nat.reduceAdd, Nat.reduceMul, Int.reduceToNat, true_and, and_true, and_self, cP_eq, cP_ne, cP_lt, cP_ge, cP_gt, cP_le, eL_i, eL_l, eL_r, eL_n, Option.toList_none, Option.toList_some, List.nil_append, List.cons_append, kkI, llI, nnI, rrI, jjI, kkJ, llJ, nnJ, rrJ, iiJ, zIIs, zJJs, nEF, nET, and_false, false_and, jmin, jmax, catS_n, catS_i, catS_r, catS_l, Nat.reduceLeDiff, j1eq1, n21, jt0, jt1, Bool.false_eq_true, Classical.not_not, true_or, or_true, false_or, or_false, true_imp_iff, false_imp_iff, not_true_eq_false, not_false_eq_true, jif0, jif1, jifb, ltT, ltF, leT, leF, eqT, eqF, jlt, jle, jeq, jlt0, jle0, jeq0, jge0, jgt0, jinB, jnat, clt, cle, ceq, cgt, cge, lI_add, lI_sub, lI_mul, jadd, jsub, jmul, jneg, jtol, b010, b011, pv_2t, Int.toNat_natCast, Option.some.injEq, exists_eq_left', if_true, if_false, nF gn.1, hI v (by omega)]
        exact no fun z => c1 z.1
  have lo : ∀ (f9 k edge : Nat) (st : Nat → Nat) (g : Hp) (o4 o5 : Option Value), f9 + k = nm → 1 ≤ k → edge < 4096 → (∀ i, st i ≤ 12) → fi (fun q => q = x + 2) h g → (∀ i, i < 12 → zI g (x + 2) i = iI (st i)) → wbO bt nm s f9 k edge st = wbF bt nm s → PW (d + 1) 38 10 [some (.ref x), some (.int (iI s)), some (.int (iI edge)), some (.int (iI k)), o4, o5] [] g Q := by
    intro f9
    induction f9 with
    | zero =>
      intro k edge st g o4 o5 hk hk1 hed hst f hI hF
      have gn := kn g f
      have q := hq g f (by rw [← hF]; exact hI)
      rw [← hF] at q
      refine vs_ok 4 ?_
      rw [show ((gRes 38).drop 10).take 4 = [.iload 3, .aload 0, .getfield 3040, .if_icmp .ge 65] from rfl]
      simp (disch := omega) only [vs_if_icmp, vs_getfield, vs_aload0, vs_iload3, vs_nil, gv_0, gv_1, gv_2, gv_3, pv_0, pv_1, va_rf_s, Nat.reduceDiv, Nat.reduceMod, Nat.reduceAdd, Nat.reduceMul, Int.reduceToNat, true_and, and_true, and_self, cP_eq, cP_ne, cP_lt, cP_ge, cP_gt, cP_le, eL_i, eL_l, eL_r, eL_n, Option.toList_none, Option.toList_some, List.nil_append, List.cons_append, kkI, llI, nnI, rrI, jjI, kkJ, llJ, nnJ, rrJ, iiJ, zIIs, zJJs, nEF, nET, and_false, false_and, jmin, jmax, catS_n, catS_i, catS_r, catS_l, Nat.reduceLeDiff, j1eq1, n21, jt0, jt1, Bool.false_eq_true, Classical.not_not, true_or, or_true, false_or, or_false, true_imp_iff, false_imp_iff, not_true_eq_false, not_false_eq_true, jif0, jif1, jifb, ltT, ltF, leT, leF, eqT, eqF, jlt, jle, jeq, jlt0, jle0, jeq0, jge0, jgt0, jinB, jnat, clt, cle, ceq, cgt, cge, lI_add, lI_sub, lI_mul, jadd, jsub, jmul, jneg, jtol, b010, b011, pv_2t, Int.toNat_natCast, Option.some.injEq, exists_eq_left', if_true, if_false, nF gn.1, gn.2.2.1]
      refine vs_ok 2 ?_
      rw [show ((gRes 38).drop 65).take 2 = [.iconst 0, .ireturn] from rfl]
      simp (disch := omega) only [vs_iconst, vs_ireturn, vs_nil, gv_0, gv_1, gv_2, gv_3, pv_0, pv_1, va_rf_s, Nat.reduceDiv, Nat.reduceMod, Nat.reduceAdd, Nat.reduceMul, Int.reduceToNat, true_and, and_true, and_self, cP_eq, cP_ne, cP_lt, cP_ge, cP_gt, cP_le, eL_i, eL_l, eL_r, eL_n, Option.toList_none, Option.toList_some, List.nil_append, List.cons_append, kkI, llI, nnI, rrI, jjI, kkJ, llJ, nnJ, rrJ, iiJ, zIIs, zJJs, nEF, nET, and_false, false_and, jmin, jmax, catS_n, catS_i, catS_r, catS_l, Nat.reduceLeDiff, j1eq1, n21, jt0, jt1, Bool.false_eq_true, Classical.not_not, true_or, or_true, false_or, or_false, true_imp_iff, false_imp_iff, not_true_eq_false, not_false_eq_true, jif0, jif1, jifb, ltT, ltF, leT, leF, eqT, eqF, jlt, jle, jeq, jlt0, jle0, jeq0, jge0, jgt0, jinB, jnat, clt, cle, ceq, cgt, cge, lI_add, lI_sub, lI_mul, jadd, jsub, jmul, jneg, jtol, b010, b011, pv_2t, Int.toNat_natCast, Option.some.injEq, exists_eq_left', if_true, if_false, show gRc 38 = 1 from rfl]
      exact q
    | succ f9 ih =>
      intro k edge st g o4 o5 hk hk1 hed hst f hI hF
      have gn := kn g f
      have ef : wbO bt nm s (f9 + 1) k edge st = if edge = 0 then (0, st) else if bt s &&& (wbI bt edge k (nm - (s + 1)) (s + 1) st 0).2 ≠ 0 then (k + 1, (wbI bt edge k (nm - (s + 1)) (s + 1) st 0).1) else wbO bt nm s f9 (k + 1) (wbI bt edge k (nm - (s + 1)) (s + 1) st 0).2 (wbI bt edge k (nm - (s + 1)) (s + 1) st 0).1 := rfl
      by_cases c : edge = 0
      · rw [if_pos c] at ef
        rw [ef] at hF
        have q := hq g f (by rw [← hF]; exact hI)
        rw [← hF] at q
        refine vs_ok 41 ?_
        rw [show ((gRes 38).drop 10).take 41 = [.iload 3, .aload 0, .getfield 3040, .if_icmp .ge 65, .iload 2, .ifCond .eq 65, .iconst 0, .istore 4, .iload 1, .iconst 1, .iadd, .istore 5, .iload 5, .aload 0, .getfield 3040, .if_icmp .ge 51, .aload 0, .getfield 3012, .iload 5, .iaload, .ifCond .ne 49, .aload 0, .getfield 3002, .iload 5, .iaload, .iload 2, .iand, .ifCond .eq 49, .aload 0, .getfield 3012, .iload 5, .iload 3, .iastore, .iload 4, .iconst 1, .iload 5, .ishl, .ior, .istore 4, .iinc 5 1, .goto 22] from rfl]
        simp (disch := omega) only [vs_iadd, vs_iconst, vs_goto, vs_if_icmp, vs_ifCond, vs_getfield, vs_iaload, vs_iastore, vs_aload0, vs_iload1, vs_iload2, vs_iload3, vs_iload4, vs_istore4n, vs_istore4i, vs_istore4r, vs_istore4l, vs_iload5, vs_istore5n, vs_iinc5n, vs_istore5i, vs_iinc5i, vs_istore5r, vs_iinc5r, vs_istore5l, vs_iinc5l, vs_nil, gv_0, gv_1, gv_2, gv_3, pv_0, pv_1, va_rf_s, vs_iand, vs_ior, vs_ishl, Nat.reduceDiv, Nat.reduceMod, Nat.reduceAdd, Nat.reduceMul, Int.reduceToNat, true_and, and_true, and_self, cP_eq, cP_ne, cP_lt, cP_ge, cP_gt, cP_le, eL_i, eL_l, eL_r, eL_n, Option.toList_none, Option.toList_some, List.nil_append, List.cons_append, kkI, llI, nnI, rrI, jjI, kkJ, llJ, nnJ, rrJ, iiJ, zIIs, zJJs, nEF, nET, and_false, false_and, jmin, jmax, catS_n, catS_i, catS_r, catS_l, Nat.reduceLeDiff, j1eq1, n21, jt0, jt1, Bool.false_eq_true, Classical.not_not, true_or, or_true, false_or, or_false, true_imp_iff, false_imp_iff, not_true_eq_false, not_false_eq_true, jif0, jif1, jifb, ltT, ltF, leT, leF, eqT, eqF, jlt, jle, jeq, jlt0, jle0, jeq0, jge0, jgt0, jinB, jnat, clt, cle, ceq, cgt, cge, lI_add, lI_sub, lI_mul, jadd, jsub, jmul, jneg, jtol, b010, b011, pv_2t, Int.toNat_natCast, Option.some.injEq, exists_eq_left', if_true, if_false, nF gn.1, gn.2.2.1]
        refine vs_ok 2 ?_
        rw [show ((gRes 38).drop 65).take 2 = [.iconst 0, .ireturn] from rfl]
        simp (disch := omega) only [vs_iconst, vs_ireturn, vs_nil, gv_0, gv_1, gv_2, gv_3, pv_0, pv_1, va_rf_s, Nat.reduceDiv, Nat.reduceMod, Nat.reduceAdd, Nat.reduceMul, Int.reduceToNat, true_and, and_true, and_self, cP_eq, cP_ne, cP_lt, cP_ge, cP_gt, cP_le, eL_i, eL_l, eL_r, eL_n, Option.toList_none, Option.toList_some, List.nil_append, List.cons_append, kkI, llI, nnI, rrI, jjI, kkJ, llJ, nnJ, rrJ, iiJ, zIIs, zJJs, nEF, nET, and_false, false_and, jmin, jmax, catS_n, catS_i, catS_r, catS_l, Nat.reduceLeDiff, j1eq1, n21, jt0, jt1, Bool.false_eq_true, Classical.not_not, true_or, or_true, false_or, or_false, true_imp_iff, false_imp_iff, not_true_eq_false, not_false_eq_true, jif0, jif1, jifb, ltT, ltF, leT, leF, eqT, eqF, jlt, jle, jeq, jlt0, jle0, jeq0, jge0, jgt0, jinB, jnat, clt, cle, ceq, cgt, cge, lI_add, lI_sub, lI_mul, jadd, jsub, jmul, jneg, jtol, b010, b011, pv_2t, Int.toNat_natCast, Option.some.injEq, exists_eq_left', if_true, if_false, show gRc 38 = 1 from rfl]
        exact q
      · rw [if_neg c] at ef
        refine vs_ok 12 ?_
        rw [show ((gRes 38).drop 10).take 12 = [.iload 3, .aload 0, .getfield 3040, .if_icmp .ge 65, .iload 2, .ifCond .eq 65, .iconst 0, .istore 4, .iload 1, .iconst 1, .iadd, .istore 5] from rfl]
        simp (disch := omega) only [vs_iadd, vs_iconst, vs_if_icmp, vs_ifCond, vs_getfield, vs_aload0, vs_iload1, vs_iload2, vs_iload3, vs_istore4n, vs_istore4i, vs_istore4r, vs_istore4l, vs_istore5n, vs_istore5i, vs_istore5r, vs_istore5l, vs_nil, gv_0, gv_1, gv_2, gv_3, pv_0, pv_1, va_rf_s, Nat.reduceDiv, Nat.reduceMod, Nat.reduceAdd, Nat.reduceMul, Int.reduceToNat, true_and, and_true, and_self, cP_eq, cP_ne, cP_lt, cP_ge, cP_gt, cP_le, eL_i, eL_l, eL_r, eL_n, Option.toList_none, Option.toList_some, List.nil_append, List.cons_append, kkI, llI, nnI, rrI, jjI, kkJ, llJ, nnJ, rrJ, iiJ, zIIs, zJJs, nEF, nET, and_false, false_and, jmin, jmax, catS_n, catS_i, catS_r, catS_l, Nat.reduceLeDiff, j1eq1, n21, jt0, jt1, Bool.false_eq_true, Classical.not_not, true_or, or_true, false_or, or_false, true_imp_iff, false_imp_iff, not_true_eq_false, not_false_eq_true, jif0, jif1, jifb, ltT, ltF, leT, leF, eqT, eqF, jlt, jle, jeq, jlt0, jle0, jeq0, jge0, jgt0, jinB, jnat, clt, cle, ceq, cgt, cge, lI_add, lI_sub, lI_mul, jadd, jsub, jmul, jneg, jtol, b010, b011, pv_2t, Int.toNat_natCast, Option.some.injEq, exists_eq_left', if_true, if_false, nF gn.1, gn.2.2.1]
        have hw := wbI_lt (bt := bt) (edge := edge) (k := k) (by omega) (nm - (s + 1)) (s + 1) st 0 (by omega) (by omega) hst
        refine li k edge hk1 (by omega) hed (nm - (s + 1)) (s + 1) st 0 g (by omega) (by omega) hst f hI fun g' f' hI' o => ?_
        generalize wbI bt edge k (nm - (s + 1)) (s + 1) st 0 = w at *
        obtain ⟨w1, w2⟩ := w
        have gn' := kn g' f'
        have b2 := and_lt (b := w2) (hb4 s (by omega)).1
        refine vs_ok 2 ?_
        rw [show ((gRes 38).drop 51).take 2 = [.aload 0, .iload 1] from rfl]
        simp (disch := omega) only [vs_aload0, vs_iload1, vs_nil, gv_0, gv_1, gv_2, gv_3, pv_0, pv_1, va_rf_s, Nat.reduceDiv, Nat.reduceMod, Nat.reduceAdd, Nat.reduceMul, Int.reduceToNat, true_and, and_true, and_self, cP_eq, cP_ne, cP_lt, cP_ge, cP_gt, cP_le, eL_i, eL_l, eL_r, eL_n, Option.toList_none, Option.toList_some, List.nil_append, List.cons_append, kkI, llI, nnI, rrI, jjI, kkJ, llJ, nnJ, rrJ, iiJ, zIIs, zJJs, nEF, nET, and_false, false_and, jmin, jmax, catS_n, catS_i, catS_r, catS_l, Nat.reduceLeDiff, j1eq1, n21, jt0, jt1, Bool.false_eq_true, Classical.not_not, true_or, or_true, false_or, or_false, true_imp_iff, false_imp_iff, not_true_eq_false, not_false_eq_true, jif0, jif1, jifb, ltT, ltF, leT, leF, eqT, eqF, jlt, jle, jeq, jlt0, jle0, jeq0, jge0, jgt0, jinB, jnat, clt, cle, ceq, cgt, cge, lI_add, lI_sub, lI_mul, jadd, jsub, jmul, jneg, jtol, b010, b011, pv_2t, Int.toNat_natCast, Option.some.injEq, exists_eq_left', if_true, if_false]
        refine PW.iv rfl rfl rfl (nF gn'.1).1.1 (nF gn'.1).1.2 (le_b rfl) (le_b rfl) ?_
        refine t_beatenBy gn' hs ⟨rfl, ⟨rfl, rfl⟩, ?_⟩
        by_cases c2 : bt s &&& w2 = 0
        · rw [if_neg (fun z => z c2)] at ef
          refine vs_ok 3 ?_
          rw [show ((gRes 38).drop 54).take 3 = [.iload 4, .iand, .ifCond .eq 61] from rfl]
          simp (disch := omega) only [vs_ifCond, vs_iload4, vs_nil, gv_0, gv_1, gv_2, gv_3, pv_0, pv_1, va_rf_s, vs_iand, Nat.reduceDiv, Nat.reduceMod, Nat.reduceAdd, Nat.reduceMul, Int.reduceToNat, true_and, and_true, and_self, cP_eq, cP_ne, cP_lt, cP_ge, cP_gt, cP_le, eL_i, eL_l, eL_r, eL_n, Option.toList_none, Option.toList_some, List.nil_append, List.cons_append, kkI, llI, nnI, rrI, jjI, kkJ, llJ, nnJ, rrJ, iiJ, zIIs, zJJs, nEF, nET, and_false, false_and, jmin, jmax, catS_n, catS_i, catS_r, catS_l, Nat.reduceLeDiff, j1eq1, n21, jt0, jt1, Bool.false_eq_true, Classical.not_not, true_or, or_true, false_or, or_false, true_imp_iff, false_imp_iff, not_true_eq_false, not_false_eq_true, jif0, jif1, jifb, ltT, ltF, leT, leF, eqT, eqF, jlt, jle, jeq, jlt0, jle0, jeq0, jge0, jgt0, jinB, jnat, clt, cle, ceq, cgt, cge, lI_add, lI_sub, lI_mul, jadd, jsub, jmul, jneg, jtol, b010, b011, pv_2t, Int.toNat_natCast, Option.some.injEq, exists_eq_left', if_true, if_false, jand]
          refine vs_ok 4 ?_
          rw [show ((gRes 38).drop 61).take 4 = [.iload 4, .istore 2, .iinc 3 1, .goto 10] from rfl]
          simp (disch := omega) only [vs_goto, vs_istore2n, vs_istore2i, vs_istore2r, vs_istore2l, vs_iinc3n, vs_iinc3i, vs_iinc3r, vs_iinc3l, vs_iload4, vs_nil, gv_0, gv_1, gv_2, gv_3, pv_0, pv_1, va_rf_s, Nat.reduceDiv, Nat.reduceMod, Nat.reduceAdd, Nat.reduceMul, Int.reduceToNat, true_and, and_true, and_self, cP_eq, cP_ne, cP_lt, cP_ge, cP_gt, cP_le, eL_i, eL_l, eL_r, eL_n, Option.toList_none, Option.toList_some, List.nil_append, List.cons_append, kkI, llI, nnI, rrI, jjI, kkJ, llJ, nnJ, rrJ, iiJ, zIIs, zJJs, nEF, nET, and_false, false_and, jmin, jmax, catS_n, catS_i, catS_r, catS_l, Nat.reduceLeDiff, j1eq1, n21, jt0, jt1, Bool.false_eq_true, Classical.not_not, true_or, or_true, false_or, or_false, true_imp_iff, false_imp_iff, not_true_eq_false, not_false_eq_true, jif0, jif1, jifb, ltT, ltF, leT, leF, eqT, eqF, jlt, jle, jeq, jlt0, jle0, jeq0, jge0, jgt0, jinB, jnat, clt, cle, ceq, cgt, cge, lI_add, lI_sub, lI_mul, jadd, jsub, jmul, jneg, jtol, b010, b011, pv_2t, Int.toNat_natCast, Option.some.injEq, exists_eq_left', if_true, if_false]
          exact ih (k + 1) w2 w1 g' _ _ (by omega) (by omega) hw.1 hw.2 f' hI' (ef ▸ hF)
        · rw [if_pos c2] at ef
          rw [ef] at hF
          have q := hq g' f' (by rw [← hF]; exact hI')
          rw [← hF] at q
          refine vs_ok 3 ?_
          rw [show ((gRes 38).drop 54).take 3 = [.iload 4, .iand, .ifCond .eq 61] from rfl]
          simp (disch := omega) only [vs_ifCond, vs_iload4, vs_nil, gv_0, gv_1, gv_2, gv_3, pv_0, pv_1, va_rf_s, vs_iand, Nat.reduceDiv, Nat.reduceMod, Nat.reduceAdd, Nat.reduceMul, Int.reduceToNat, true_and, and_true, and_self, cP_eq, cP_ne, cP_lt, cP_ge, cP_gt, cP_le, eL_i, eL_l, eL_r, eL_n, Option.toList_none, Option.toList_some, List.nil_append, List.cons_append, kkI, llI, nnI, rrI, jjI, kkJ, llJ, nnJ, rrJ, iiJ, zIIs, zJJs, nEF, nET, and_false, false_and, jmin, jmax, catS_n, catS_i, catS_r, catS_l, Nat.reduceLeDiff, j1eq1, n21, jt0, jt1, Bool.false_eq_true, Classical.not_not, true_or, or_true, false_or, or_false, true_imp_iff, false_imp_iff, not_true_eq_false, not_false_eq_true, jif0, jif1, jifb, ltT, ltF, leT, leF, eqT, eqF, jlt, jle, jeq, jlt0, jle0, jeq0, jge0, jgt0, jinB, jnat, clt, cle, ceq, cgt, cge, lI_add, lI_sub, lI_mul, jadd, jsub, jmul, jneg, jtol, b010, b011, pv_2t, Int.toNat_natCast, Option.some.injEq, exists_eq_left', if_true, if_false, jand]
          refine vs_ok 4 ?_
          rw [show ((gRes 38).drop 57).take 4 = [.iload 3, .iconst 1, .iadd, .ireturn] from rfl]
          simp (disch := omega) only [vs_iadd, vs_iconst, vs_ireturn, vs_iload3, vs_nil, gv_0, gv_1, gv_2, gv_3, pv_0, pv_1, va_rf_s, Nat.reduceDiv, Nat.reduceMod, Nat.reduceAdd, Nat.reduceMul, Int.reduceToNat, true_and, and_true, and_self, cP_eq, cP_ne, cP_lt, cP_ge, cP_gt, cP_le, eL_i, eL_l, eL_r, eL_n, Option.toList_none, Option.toList_some, List.nil_append, List.cons_append, kkI, llI, nnI, rrI, jjI, kkJ, llJ, nnJ, rrJ, iiJ, zIIs, zJJs, nEF, nET, and_false, false_and, jmin, jmax, catS_n, catS_i, catS_r, catS_l, Nat.reduceLeDiff, j1eq1, n21, jt0, jt1, Bool.false_eq_true, Classical.not_not, true_or, or_true, false_or, or_false, true_imp_iff, false_imp_iff, not_true_eq_false, not_false_eq_true, jif0, jif1, jifb, ltT, ltF, leT, leF, eqT, eqF, jlt, jle, jeq, jlt0, jle0, jeq0, jge0, jgt0, jinB, jnat, clt, cle, ceq, cgt, cge, lI_add, lI_sub, lI_mul, jadd, jsub, jmul, jneg, jtol, b010, b011, pv_2t, Int.toNat_natCast, Option.some.injEq, exists_eq_left', if_true, if_false, show gRc 38 = 1 from rfl]
          exact q
  refine vs_ok 3 ?_
  rw [show ((gRes 38).drop 0).take 3 = [.aload 0, .getfield 3012, .iconst 0] from rfl]
  simp (disch := omega) only [vs_iconst, vs_getfield, vs_aload0, vs_nil, gv_0, gv_1, gv_2, gv_3, pv_0, pv_1, va_rf_s, Nat.reduceDiv, Nat.reduceMod, Nat.reduceAdd, Nat.reduceMul, Int.reduceToNat, true_and, and_true, and_self, cP_eq, cP_ne, cP_lt, cP_ge, cP_gt, cP_le, eL_i, eL_l, eL_r, eL_n, Option.toList_none, Option.toList_some, List.nil_append, List.cons_append, kkI, llI, nnI, rrI, jjI, kkJ, llJ, nnJ, rrJ, iiJ, zIIs, zJJs, nEF, nET, and_false, false_and, jmin, jmax, catS_n, catS_i, catS_r, catS_l, Nat.reduceLeDiff, j1eq1, n21, jt0, jt1, Bool.false_eq_true, Classical.not_not, true_or, or_true, false_or, or_false, true_imp_iff, false_imp_iff, not_true_eq_false, not_false_eq_true, jif0, jif1, jifb, ltT, ltF, leT, leF, eqT, eqF, jlt, jle, jeq, jlt0, jle0, jeq0, jge0, jgt0, jinB, jnat, clt, cle, ceq, cgt, cge, lI_add, lI_sub, lI_mul, jadd, jsub, jmul, jneg, jtol, b010, b011, pv_2t, Int.toNat_natCast, Option.some.injEq, exists_eq_left', if_true, if_false, N]
  refine PW.ss (r := []) rfl (le_b rfl) rfl rfl (le_b rfl) (le_b rfl) ?_
  refine t_fillI N.2.2.1.2.1 N.2.2.1.2.2.1 N.2.2.1.2.2.2 (by omega) fun g f hI => ⟨rfl, ⟨f.1.2.2.1, rfl⟩, ?_⟩
  refine vs_ok 6 ?_
  rw [show ((gRes 38).drop 4).take 6 = [.iconst 1, .iload 1, .ishl, .istore 2, .iconst 1, .istore 3] from rfl]
  simp (disch := omega) only [vs_iconst, vs_iload1, vs_istore2n, vs_istore2i, vs_istore2r, vs_istore2l, vs_istore3n, vs_istore3i, vs_istore3r, vs_istore3l, vs_nil, gv_0, gv_1, gv_2, gv_3, pv_0, pv_1, va_rf_s, vs_ishl, Nat.reduceDiv, Nat.reduceMod, Nat.reduceAdd, Nat.reduceMul, Int.reduceToNat, true_and, and_true, and_self, cP_eq, cP_ne, cP_lt, cP_ge, cP_gt, cP_le, eL_i, eL_l, eL_r, eL_n, Option.toList_none, Option.toList_some, List.nil_append, List.cons_append, kkI, llI, nnI, rrI, jjI, kkJ, llJ, nnJ, rrJ, iiJ, zIIs, zJJs, nEF, nET, and_false, false_and, jmin, jmax, catS_n, catS_i, catS_r, catS_l, Nat.reduceLeDiff, j1eq1, n21, jt0, jt1, Bool.false_eq_true, Classical.not_not, true_or, or_true, false_or, or_false, true_imp_iff, false_imp_iff, not_true_eq_false, not_false_eq_true, jif0, jif1, jifb, ltT, ltF, leT, leF, eqT, eqF, jlt, jle, jeq, jlt0, jle0, jeq0, jge0, jgt0, jinB, jnat, clt, cle, ceq, cgt, cge, lI_add, lI_sub, lI_mul, jadd, jsub, jmul, jneg, jtol, b010, b011, pv_2t, Int.toNat_natCast, Option.some.injEq, exists_eq_left', if_true, if_false, jshl1]
  exact lo (nm - 1) 1 _ _ g _ _ (by omega) (by omega) (p2_12 (by omega)) (fun i => Nat.zero_le _) f (fun i hi => hI i hi) rfl
