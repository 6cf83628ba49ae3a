/-! Pairs: putFaces, faceAt; FaceSearch: greatestOf, isAhead, partner -/
theorem smN_mono {f : Nat → Nat} {a : Nat} : ∀ {b : Nat}, a ≤ b → smN f a ≤ smN f b
  | 0, h => by rw [show a = 0 by omega]; exact Nat.le_refl _
  | b + 1, h => by
    by_cases c : a = b + 1
    · rw [c]; exact Nat.le_refl _
    · have := smN_mono (f := f) (show a ≤ b by omega)
      show smN f a ≤ smN f b + f b
      omega
/-- of how many times told for each d, which d the k-th is -/
def dgF (tm : Nat → Nat) (k : Nat) : Nat := (fB (fun d => decide (k < smN tm (d + 1))) 61 0).getD 0
theorem dgF_eq {tm : Nat → Nat} {k d : Nat} (h1 : smN tm d ≤ k) (h2 : k < smN tm (d + 1)) (hd : d < 61) : dgF tm k = d := by
  unfold dgF
  cases e : fB (fun d => decide (k < smN tm (d + 1))) 61 0 with
  | none =>
    have := fB_none e d (by omega) (by omega)
    rw [decide_eq_true h2] at this
    cases this
  | some q =>
    obtain ⟨a, b, c, f⟩ := fB_some e
    show q = d
    have c' : k < smN tm (q + 1) := of_decide_eq_true c
    by_cases c1 : q < d
    · have := smN_mono (f := tm) (show q + 1 ≤ d by omega)
      omega
    · by_cases c2 : d < q
      · have := f d (by omega) c2
        rw [decide_eq_true h2] at this
        cases this
      · omega
def pfW (fc : Nat → Int) (i0 lo : Nat) (tm : Nat → Nat) (m q : Nat) : Int := if i0 ≤ q ∧ q < i0 + m then ((lo + dgF tm (q - i0) : Nat) : Int) else fc q
theorem t_putFaces {d : Nat} {h : Hp} {x a sl fr0 lo : Nat} {tm : Nat → Nat} {fc : Nat → Int} {Q : Nat → Option Value → Hp → Prop} (ho : objA h x 4 paL) (ha : zK h a = 14 ∧ a < zN h ∧ zL h a = 61) (hne : a ≠ x + 1) (ht : ∀ i, i < 61 → tm i ≤ 64 ∧ zI h a i = iI (tm i)) (hf : ∀ q, q < 6500 → zI h (x + 1) q = iI (fc q)) (hs : sl < 100 ∧ fr0 ≤ 65 ∧ lo ≤ 60) (hb : 65 * sl + fr0 + smN tm 61 ≤ 6500)
    (hq : ∀ g, fi (fun q => q = x + 1) h g → (∀ q, q < 6500 → zI g (x + 1) q = iI (pfW fc (65 * sl + fr0) lo tm (smN tm 61) q)) → Q 0 none g) : PR d m_Pairs_putFaces [.ref x, .int (iI sl), .int (iI fr0), .ref a, .int (iI lo)] h Q := by
  show PW d 51 0 [some (.ref x), some (.int (iI sl)), some (.int (iI fr0)), some (.ref a), some (.int (iI lo)), none, none, none] [] h Q
  generalize hI0 : 65 * sl + fr0 = i0 at *
  have li : ∀ (e : Nat), e < 61 → ∀ (K : ∀ g o, fi (fun q => q = x + 1) h g → (∀ q, q < 6500 → zI g (x + 1) q = iI (pfW fc i0 lo tm (smN tm (e + 1)) q)) → PW d 51 36 [some (.ref x), some (.int (iI sl)), some (.int (iI fr0)), some (.ref a), some (.int (iI lo)), some (.int (iI (i0 + smN tm (e + 1) : Nat))), some (.int (iI e)), o] [] g Q), ∀ (k t : Nat) (g : Hp), k + t = tm e → fi (fun q => q = x + 1) h g → (∀ q, q < 6500 → zI g (x + 1) q = iI (pfW fc i0 lo tm (smN tm e + t) q)) → PW d 51 14 [some (.ref x), some (.int (iI sl)), some (.int (iI fr0)), some (.ref a), some (.int (iI lo)), some (.int (iI (i0 + (smN tm e + t) : Nat))), some (.int (iI e)), some (.int (iI t))] [] g Q := by
    intro e he K k
    have te := (ht e he).1
    have sm1 : smN tm (e + 1) = smN tm e + tm e := rfl
    have sm2 := smN_mono (f := tm) (show e + 1 ≤ 61 by omega)
    induction k with
    | zero =>
      intro t g hk f hI
      have ga : zI g a = zI h a := f.1.2.2.2.2.2.1 _ hne
      have et : t = tm e := by omega
      subst et
      refine vs_ok 5 ?_
      rw [show ((gRes 51).drop 14).take 5 = [.iload 7, .aload 3, .iload 6, .iaload, .if_icmp .ge 36] from rfl]
      simp (disch := omega) only [vs_if_icmp, vs_iaload, vs_aload3, vs_iload6, vs_iload7, vs_nil, gv_0, gv_1, gv_2, gv_3, pv_0, pv_1, va_rf_s, Nat.reduceDiv, Nat.reduceMod, Nat.reduceAdd, Nat.reduceMul, Int.reduceToNat, true_and, and_true, and_self, cP_eq, cP_ne, cP_lt, cP_ge, cP_gt, cP_le, eL_i, eL_l, eL_r, eL_n, Option.toList_none, Option.toList_some, List.nil_append, List.cons_append, kkI, llI, nnI, rrI, jjI, kkJ, llJ, nnJ, rrJ, iiJ, zIIs, zJJs, nEF, nET, and_false, false_and, jmin, jmax, catS_n, catS_i, catS_r, catS_l, Nat.reduceLeDiff, j1eq1, n21, jt0, jt1, Bool.false_eq_true, Classical.not_not, true_or, or_true, false_or, or_false, true_imp_iff, false_imp_iff, not_true_eq_false, not_false_eq_true, jif0, jif1, jifb, ltT, ltF, leT, leF, eqT, eqF, jlt, jle, jeq, jlt0, jle0, jeq0, jge0, jgt0, jinB, jnat, clt, cle, ceq, cgt, cge, lI_add, lI_sub, lI_mul, jadd, jsub, jmul, jneg, jtol, b010, b011, pv_2t, Int.toNat_natCast, Option.some.injEq, exists_eq_left', if_true, if_false, show zK g a = 14 from by rw [f.1.1]; exact ha.1, show a < zN g from by rw [f.1.2.2.1]; exact ha.2.1, show zL g a = 61 from by rw [f.1.2.1]; exact ha.2.2, ga, (ht e he).2]
      exact K g _ f hI
    | succ k ih =>
      intro t g hk f hI
      have ga : zI g a = zI h a := f.1.2.2.2.2.2.1 _ hne
      have N := paF (ho.fi f)
      have e1 : (lo : Int) + (e : Int) = ((lo + e : Nat) : Int) := by omega
      have e2 : ((i0 + (smN tm e + t) : Nat) : Int) + 1 = ((i0 + (smN tm e + (t + 1)) : Nat) : Int) := by omega
      have e3 : (t : Int) + 1 = ((t + 1 : Nat) : Int) := by omega
      have a14 : zK g a = 14 := by rw [f.1.1]; exact ha.1
      have aN : a < zN g := by rw [f.1.2.2.1]; exact ha.2.1
      have aL : zL g a = 61 := by rw [f.1.2.1]; exact ha.2.2
      refine vs_ok 12 ?_
      rw [show ((gRes 51).drop 14).take 12 = [.iload 7, .aload 3, .iload 6, .iaload, .if_icmp .ge 36, .iload 5, .ifCond .lt 36, .iload 5, .aload 0, .getfield 4002, .arraylength, .if_icmp .ge 36] from rfl]
      simp (disch := omega) only [vs_if_icmp, vs_ifCond, vs_getfield, vs_iaload, vs_arraylength, vs_aload0, vs_aload3, vs_iload5, vs_iload6, vs_iload7, vs_nil, gv_0, gv_1, gv_2, gv_3, pv_0, pv_1, va_rf_s, Nat.reduceDiv, Nat.reduceMod, Nat.reduceAdd, Nat.reduceMul, Int.reduceToNat, true_and, and_true, and_self, cP_eq, cP_ne, cP_lt, cP_ge, cP_gt, cP_le, eL_i, eL_l, eL_r, eL_n, Option.toList_none, Option.toList_some, List.nil_append, List.cons_append, kkI, llI, nnI, rrI, jjI, kkJ, llJ, nnJ, rrJ, iiJ, zIIs, zJJs, nEF, nET, and_false, false_and, jmin, jmax, catS_n, catS_i, catS_r, catS_l, Nat.reduceLeDiff, j1eq1, n21, jt0, jt1, Bool.false_eq_true, Classical.not_not, true_or, or_true, false_or, or_false, true_imp_iff, false_imp_iff, not_true_eq_false, not_false_eq_true, jif0, jif1, jifb, ltT, ltF, leT, leF, eqT, eqF, jlt, jle, jeq, jlt0, jle0, jeq0, jge0, jgt0, jinB, jnat, clt, cle, ceq, cgt, cge, lI_add, lI_sub, lI_mul, jadd, jsub, jmul, jneg, jtol, b010, b011, pv_2t, Int.toNat_natCast, Option.some.injEq, exists_eq_left', if_true, if_false, a14, aN, aL, ga, (ht e he).2, N, or_true, true_or, show Int32.ofNat 6500 = iI 6500 from rfl]
      refine vs_ok 9 ?_
      rw [show ((gRes 51).drop 26).take 9 = [.aload 0, .getfield 4002, .iload 5, .iload 4, .iload 6, .iadd, .iastore, .iinc 5 1, .iinc 7 1] from rfl]
      simp (disch := omega) only [vs_iadd, vs_getfield, vs_iastore, vs_aload0, vs_iload4, vs_iload5, vs_iinc5n, vs_iinc5i, vs_iinc5r, vs_iinc5l, vs_iload6, vs_iinc7n, vs_iinc7i, vs_iinc7r, vs_iinc7l, vs_nil, gv_0, gv_1, gv_2, gv_3, pv_0, pv_1, va_rf_s, Nat.reduceDiv, Nat.reduceMod, Nat.reduceAdd, Nat.reduceMul, Int.reduceToNat, true_and, and_true, and_self, cP_eq, cP_ne, cP_lt, cP_ge, cP_gt, cP_le, eL_i, eL_l, eL_r, eL_n, Option.toList_none, Option.toList_some, List.nil_append, List.cons_append, kkI, llI, nnI, rrI, jjI, kkJ, llJ, nnJ, rrJ, iiJ, zIIs, zJJs, nEF, nET, and_false, false_and, jmin, jmax, catS_n, catS_i, catS_r, catS_l, Nat.reduceLeDiff, j1eq1, n21, jt0, jt1, Bool.false_eq_true, Classical.not_not, true_or, or_true, false_or, or_false, true_imp_iff, false_imp_iff, not_true_eq_false, not_false_eq_true, jif0, jif1, jifb, ltT, ltF, leT, leF, eqT, eqF, jlt, jle, jeq, jlt0, jle0, jeq0, jge0, jgt0, jinB, jnat, clt, cle, ceq, cgt, cge, lI_add, lI_sub, lI_mul, jadd, jsub, jmul, jneg, jtol, b010, b011, pv_2t, Int.toNat_natCast, Option.some.injEq, exists_eq_left', if_true, if_false, N, e1, e2, e3]
      refine vs_ok 1 ?_
      rw [show ((gRes 51).drop 35).take 1 = [.goto 14] from rfl]
      simp (disch := omega) only [vs_goto, vs_nil, gv_0, gv_1, gv_2, gv_3, pv_0, pv_1, va_rf_s, Nat.reduceDiv, Nat.reduceMod, Nat.reduceAdd, Nat.reduceMul, Int.reduceToNat, true_and, and_true, and_self, cP_eq, cP_ne, cP_lt, cP_ge, cP_gt, cP_le, eL_i, eL_l, eL_r, eL_n, Option.toList_none, Option.toList_some, List.nil_append, List.cons_append, kkI, llI, nnI, rrI, jjI, kkJ, llJ, nnJ, rrJ, iiJ, zIIs, zJJs, nEF, nET, and_false, false_and, jmin, jmax, catS_n, catS_i, catS_r, catS_l, Nat.reduceLeDiff, j1eq1, n21, jt0, jt1, Bool.false_eq_true, Classical.not_not, true_or, or_true, false_or, or_false, true_imp_iff, false_imp_iff, not_true_eq_false, not_false_eq_true, jif0, jif1, jifb, ltT, ltF, leT, leF, eqT, eqF, jlt, jle, jeq, jlt0, jle0, jeq0, jge0, jgt0, jinB, jnat, clt, cle, ceq, cgt, cge, lI_add, lI_sub, lI_mul, jadd, jsub, jmul, jneg, jtol, b010, b011, pv_2t, Int.toNat_natCast, Option.some.injEq, exists_eq_left', if_true, if_false]
      refine ih (t + 1) _ (by omega) (f.I rfl) fun q hq6 => ?_
      rw [zI_s]
      unfold pfW
      by_cases c : q = i0 + (smN tm e + t)
      · rw [if_pos ⟨rfl, by rw [c]⟩, if_pos ⟨by omega, by omega⟩, c, show i0 + (smN tm e + t) - i0 = smN tm e + t by omega, dgF_eq (d := e) (by omega) (by omega) he]
      · rw [if_neg (fun z => c (by have := z.2; omega)), hI q hq6]
        unfold pfW
        by_cases c2 : i0 ≤ q ∧ q < i0 + (smN tm e + t)
        · rw [if_pos c2, if_pos ⟨c2.1, by omega⟩]
        · rw [if_neg c2, if_neg (by omega)]
  have lo0 : ∀ (k e : Nat) (g : Hp) (o : Option Value), k + e = 61 → fi (fun q => q = x + 1) h g → (∀ q, q < 6500 → zI g (x + 1) q = iI (pfW fc i0 lo tm (smN tm e) q)) → PW d 51 8 [some (.ref x), some (.int (iI sl)), some (.int (iI fr0)), some (.ref a), some (.int (iI lo)), some (.int (iI (i0 + smN tm e : Nat))), some (.int (iI e)), o] [] g Q := by
    intro k
    induction k with
    | zero =>
      intro e g o hk f hI
      have a14 : zK g a = 14 := by rw [f.1.1]; exact ha.1
      have aN : a < zN g := by rw [f.1.2.2.1]; exact ha.2.1
      have aL : zL g a = 61 := by rw [f.1.2.1]; exact ha.2.2
      have ee : e = 61 := by omega
      subst ee
      refine vs_ok 4 ?_
      rw [show ((gRes 51).drop 8).take 4 = [.iload 6, .aload 3, .arraylength, .if_icmp .ge 38] from rfl]
      simp (disch := omega) only [vs_if_icmp, vs_arraylength, vs_aload3, vs_iload6, vs_nil, gv_0, gv_1, gv_2, gv_3, pv_0, pv_1, va_rf_s, Nat.reduceDiv, Nat.reduceMod, Nat.reduceAdd, Nat.reduceMul, Int.reduceToNat, true_and, and_true, and_self, cP_eq, cP_ne, cP_lt, cP_ge, cP_gt, cP_le, eL_i, eL_l, eL_r, eL_n, Option.toList_none, Option.toList_some, List.nil_append, List.cons_append, kkI, llI, nnI, rrI, jjI, kkJ, llJ, nnJ, rrJ, iiJ, zIIs, zJJs, nEF, nET, and_false, false_and, jmin, jmax, catS_n, catS_i, catS_r, catS_l, Nat.reduceLeDiff, j1eq1, n21, jt0, jt1, Bool.false_eq_true, Classical.not_not, true_or, or_true, false_or, or_false, true_imp_iff, false_imp_iff, not_true_eq_false, not_false_eq_true, jif0, jif1, jifb, ltT, ltF, leT, leF, eqT, eqF, jlt, jle, jeq, jlt0, jle0, jeq0, jge0, jgt0, jinB, jnat, clt, cle, ceq, cgt, cge, lI_add, lI_sub, lI_mul, jadd, jsub, jmul, jneg, jtol, b010, b011, pv_2t, Int.toNat_natCast, Option.some.injEq, exists_eq_left', if_true, if_false, a14, aN, aL, or_true, true_or, show Int32.ofNat 61 = iI 61 from rfl]
      refine vs_ok 1 ?_
      rw [show ((gRes 51).drop 38).take 1 = [.return_] from rfl]
      simp (disch := omega) only [vs_return_, vs_nil, gv_0, gv_1, gv_2, gv_3, pv_0, pv_1, va_rf_s, Nat.reduceDiv, Nat.reduceMod, Nat.reduceAdd, Nat.reduceMul, Int.reduceToNat, true_and, and_true, and_self, cP_eq, cP_ne, cP_lt, cP_ge, cP_gt, cP_le, eL_i, eL_l, eL_r, eL_n, Option.toList_none, Option.toList_some, List.nil_append, List.cons_append, kkI, llI, nnI, rrI, jjI, kkJ, llJ, nnJ, rrJ, iiJ, zIIs, zJJs, nEF, nET, and_false, false_and, jmin, jmax, catS_n, catS_i, catS_r, catS_l, Nat.reduceLeDiff, j1eq1, n21, jt0, jt1, Bool.false_eq_true, Classical.not_not, true_or, or_true, false_or, or_false, true_imp_iff, false_imp_iff, not_true_eq_false, not_false_eq_true, jif0, jif1, jifb, ltT, ltF, leT, leF, eqT, eqF, jlt, jle, jeq, jlt0, jle0, jeq0, jge0, jgt0, jinB, jnat, clt, cle, ceq, cgt, cge, lI_add, lI_sub, lI_mul, jadd, jsub, jmul, jneg, jtol, b010, b011, pv_2t, Int.toNat_natCast, Option.some.injEq, exists_eq_left', if_true, if_false, show gRc 51 = 0 from rfl]
      exact hq g f hI
    | succ k ih =>
      intro e g o hk f hI
      have a14 : zK g a = 14 := by rw [f.1.1]; exact ha.1
      have aN : a < zN g := by rw [f.1.2.2.1]; exact ha.2.1
      have aL : zL g a = 61 := by rw [f.1.2.1]; exact ha.2.2
      refine vs_ok 6 ?_
      rw [show ((gRes 51).drop 8).take 6 = [.iload 6, .aload 3, .arraylength, .if_icmp .ge 38, .iconst 0, .istore 7] from rfl]
      simp (disch := omega) only [vs_iconst, vs_if_icmp, vs_arraylength, vs_aload3, vs_iload6, vs_istore7n, vs_istore7i, vs_istore7r, vs_istore7l, vs_nil, gv_0, gv_1, gv_2, gv_3, pv_0, pv_1, va_rf_s, Nat.reduceDiv, Nat.reduceMod, Nat.reduceAdd, Nat.reduceMul, Int.reduceToNat, true_and, and_true, and_self, cP_eq, cP_ne, cP_lt, cP_ge, cP_gt, cP_le, eL_i, eL_l, eL_r, eL_n, Option.toList_none, Option.toList_some, List.nil_append, List.cons_append, kkI, llI, nnI, rrI, jjI, kkJ, llJ, nnJ, rrJ, iiJ, zIIs, zJJs, nEF, nET, and_false, false_and, jmin, jmax, catS_n, catS_i, catS_r, catS_l, Nat.reduceLeDiff, j1eq1, n21, jt0, jt1, Bool.false_eq_true, Classical.not_not, true_or, or_true, false_or, or_false, true_imp_iff, false_imp_iff, not_true_eq_false, not_false_eq_true, jif0, jif1, jifb, ltT, ltF, leT, leF, eqT, eqF, jlt, jle, jeq, jlt0, jle0, jeq0, jge0, jgt0, jinB, jnat, clt, cle, ceq, cgt, cge, lI_add, lI_sub, lI_mul, jadd, jsub, jmul, jneg, jtol, b010, b011, pv_2t, Int.toNat_natCast, Option.some.injEq, exists_eq_left', if_true, if_false, a14, aN, aL, or_true, true_or, show Int32.ofNat 61 = iI 61 from rfl]
      refine li e (by omega) (fun g2 o2 f2 hI2 => ?_) (tm e) 0 g (by omega) f hI
      refine vs_ok 2 ?_
      rw [show ((gRes 51).drop 36).take 2 = [.iinc 6 1, .goto 8] from rfl]
      simp (disch := omega) only [vs_goto, vs_iinc6n, vs_iinc6i, vs_iinc6r, vs_iinc6l, vs_nil, gv_0, gv_1, gv_2, gv_3, pv_0, pv_1, va_rf_s, Nat.reduceDiv, Nat.reduceMod, Nat.reduceAdd, Nat.reduceMul, Int.reduceToNat, true_and, and_true, and_self, cP_eq, cP_ne, cP_lt, cP_ge, cP_gt, cP_le, eL_i, eL_l, eL_r, eL_n, Option.toList_none, Option.toList_some, List.nil_append, List.cons_append, kkI, llI, nnI, rrI, jjI, kkJ, llJ, nnJ, rrJ, iiJ, zIIs, zJJs, nEF, nET, and_false, false_and, jmin, jmax, catS_n, catS_i, catS_r, catS_l, Nat.reduceLeDiff, j1eq1, n21, jt0, jt1, Bool.false_eq_true, Classical.not_not, true_or, or_true, false_or, or_false, true_imp_iff, false_imp_iff, not_true_eq_false, not_false_eq_true, jif0, jif1, jifb, ltT, ltF, leT, leF, eqT, eqF, jlt, jle, jeq, jlt0, jle0, jeq0, jge0, jgt0, jinB, jnat, clt, cle, ceq, cgt, cge, lI_add, lI_sub, lI_mul, jadd, jsub, jmul, jneg, jtol, b010, b011, pv_2t, Int.toNat_natCast, Option.some.injEq, exists_eq_left', if_true, if_false]
      exact ih (e + 1) g2 _ (by omega) f2 hI2
  have e0 : (sl : Int) * 65 + (fr0 : Int) = ((i0 : Nat) : Int) := by omega
  refine vs_ok 8 ?_
  rw [show ((gRes 51).drop 0).take 8 = [.iload 1, .iconst 65, .imul, .iload 2, .iadd, .istore 5, .iconst 0, .istore 6] from rfl]
  simp (disch := omega) only [vs_iadd, vs_imul, vs_iconst, vs_iload1, vs_iload2, vs_istore5n, vs_istore5i, vs_istore5r, vs_istore5l, vs_istore6n, vs_istore6i, vs_istore6r, vs_istore6l, vs_nil, gv_0, gv_1, gv_2, gv_3, pv_0, pv_1, va_rf_s, Nat.reduceDiv, Nat.reduceMod, Nat.reduceAdd, Nat.reduceMul, Int.reduceToNat, true_and, and_true, and_self, cP_eq, cP_ne, cP_lt, cP_ge, cP_gt, cP_le, eL_i, eL_l, eL_r, eL_n, Option.toList_none, Option.toList_some, List.nil_append, List.cons_append, kkI, llI, nnI, rrI, jjI, kkJ, llJ, nnJ, rrJ, iiJ, zIIs, zJJs, nEF, nET, and_false, false_and, jmin, jmax, catS_n, catS_i, catS_r, catS_l, Nat.reduceLeDiff, j1eq1, n21, jt0, jt1, Bool.false_eq_true, Classical.not_not, true_or, or_true, false_or, or_false, true_imp_iff, false_imp_iff, not_true_eq_false, not_false_eq_true, jif0, jif1, jifb, ltT, ltF, leT, leF, eqT, eqF, jlt, jle, jeq, jlt0, jle0, jeq0, jge0, jgt0, jinB, jnat, clt, cle, ceq, cgt, cge, lI_add, lI_sub, lI_mul, jadd, jsub, jmul, jneg, jtol, b010, b011, pv_2t, Int.toNat_natCast, Option.some.injEq, exists_eq_left', if_true, if_false, e0]
  refine lo0 61 0 h none (by omega) fi.rf fun q hq6 => ?_
  rw [hf q hq6]
  unfold pfW
  rw [if_neg (by show ¬ (i0 ≤ q ∧ q < i0 + 0); omega)]
theorem t_faceAt {d : Nat} {h : Hp} {x k w i p sk0 : Nat} {v : Int} {Q : Nat → Option Value → Hp → Prop} (ho : objA h x 4 paL) (h4 : zI h x 4 = iI p) (hp : p ≤ 64) (hk : k < 100) (hw : w ≤ 1) (hsl : zI h (x + 3) k = iI sk0) (hb : 65 * sk0 + (if w = 0 then 0 else p) + i < 6500) (hv : zI h (x + 1) (65 * sk0 + (if w = 0 then 0 else p) + i) = iI v) (hq : Q 0 (some (.int (iI v))) h) : PR d m_Pairs_faceAt [.ref x, .int (iI k), .int (iI w), .int (iI i)] h Q := by
  have N := paF ho
  show PW d 53 0 [some (.ref x), some (.int (iI k)), some (.int (iI w)), some (.int (iI i)), none, none] [] h Q
  refine vs_ok 5 ?_
  rw [show ((gRes 53).drop 0).take 5 = [.iload 1, .ifCond .lt 5, .iload 1, .iconst 100, .if_icmp .lt 7] from rfl]
  simp (disch := omega) only [vs_iconst, vs_if_icmp, vs_ifCond, vs_iload1, vs_nil, gv_0, gv_1, gv_2, gv_3, pv_0, pv_1, va_rf_s, Nat.reduceDiv, Nat.reduceMod, Nat.reduceAdd, Nat.reduceMul, Int.reduceToNat, true_and, and_true, and_self, cP_eq, cP_ne, cP_lt, cP_ge, cP_gt, cP_le, eL_i, eL_l, eL_r, eL_n, Option.toList_none, Option.toList_some, List.nil_append, List.cons_append, kkI, llI, nnI, rrI, jjI, kkJ, llJ, nnJ, rrJ, iiJ, zIIs, zJJs, nEF, nET, and_false, false_and, jmin, jmax, catS_n, catS_i, catS_r, catS_l, Nat.reduceLeDiff, j1eq1, n21, jt0, jt1, Bool.false_eq_true, Classical.not_not, true_or, or_true, false_or, or_false, true_imp_iff, false_imp_iff, not_true_eq_false, not_false_eq_true, jif0, jif1, jifb, ltT, ltF, leT, leF, eqT, eqF, jlt, jle, jeq, jlt0, jle0, jeq0, jge0, jgt0, jinB, jnat, clt, cle, ceq, cgt, cge, lI_add, lI_sub, lI_mul, jadd, jsub, jmul, jneg, jtol, b010, b011, pv_2t, Int.toNat_natCast, Option.some.injEq, exists_eq_left', if_true, if_false]
  refine vs_ok 4 ?_
  rw [show ((gRes 53).drop 7).take 4 = [.aload 0, .getfield 4022, .iload 1, .iaload] from rfl]
  simp (disch := omega) only [vs_getfield, vs_iaload, vs_aload0, vs_iload1, vs_nil, gv_0, gv_1, gv_2, gv_3, pv_0, pv_1, va_rf_s, Nat.reduceDiv, Nat.reduceMod, Nat.reduceAdd, Nat.reduceMul, Int.reduceToNat, true_and, and_true, and_self, cP_eq, cP_ne, cP_lt, cP_ge, cP_gt, cP_le, eL_i, eL_l, eL_r, eL_n, Option.toList_none, Option.toList_some, List.nil_append, List.cons_append, kkI, llI, nnI, rrI, jjI, kkJ, llJ, nnJ, rrJ, iiJ, zIIs, zJJs, nEF, nET, and_false, false_and, jmin, jmax, catS_n, catS_i, catS_r, catS_l, Nat.reduceLeDiff, j1eq1, n21, jt0, jt1, Bool.false_eq_true, Classical.not_not, true_or, or_true, false_or, or_false, true_imp_iff, false_imp_iff, not_true_eq_false, not_false_eq_true, jif0, jif1, jifb, ltT, ltF, leT, leF, eqT, eqF, jlt, jle, jeq, jlt0, jle0, jeq0, jge0, jgt0, jinB, jnat, clt, cle, ceq, cgt, cge, lI_add, lI_sub, lI_mul, jadd, jsub, jmul, jneg, jtol, b010, b011, pv_2t, Int.toNat_natCast, Option.some.injEq, exists_eq_left', if_true, if_false, N, hsl]
  have e1 : ∀ u : Nat, (sk0 : Int) * 65 + (u : Int) + (i : Int) = ((65 * sk0 + u + i : Nat) : Int) := fun u => by omega
  have p21 : ∀ u : Nat, u = (if w = 0 then 0 else p) → PW d 53 21 [some (.ref x), some (.int (iI k)), some (.int (iI w)), some (.int (iI i)), some (.int (iI sk0)), none] [.int (iI u), .int (iI ((sk0 : Int) * 65))] h Q := fun u hu => by
    rw [← hu] at hb hv
    refine vs_ok 11 ?_
    rw [show ((gRes 53).drop 21).take 11 = [.iadd, .iload 3, .iadd, .istore 5, .iload 5, .ifCond .lt 32, .iload 5, .aload 0, .getfield 4002, .arraylength, .if_icmp .lt 34] from rfl]
    simp (disch := omega) only [vs_iadd, vs_if_icmp, vs_ifCond, vs_getfield, vs_arraylength, vs_aload0, vs_iload3, vs_iload5, vs_istore5n, vs_istore5i, vs_istore5r, vs_istore5l, vs_nil, gv_0, gv_1, gv_2, gv_3, pv_0, pv_1, va_rf_s, Nat.reduceDiv, Nat.reduceMod, Nat.reduceAdd, Nat.reduceMul, Int.reduceToNat, true_and, and_true, and_self, cP_eq, cP_ne, cP_lt, cP_ge, cP_gt, cP_le, eL_i, eL_l, eL_r, eL_n, Option.toList_none, Option.toList_some, List.nil_append, List.cons_append, kkI, llI, nnI, rrI, jjI, kkJ, llJ, nnJ, rrJ, iiJ, zIIs, zJJs, nEF, nET, and_false, false_and, jmin, jmax, catS_n, catS_i, catS_r, catS_l, Nat.reduceLeDiff, j1eq1, n21, jt0, jt1, Bool.false_eq_true, Classical.not_not, true_or, or_true, false_or, or_false, true_imp_iff, false_imp_iff, not_true_eq_false, not_false_eq_true, jif0, jif1, jifb, ltT, ltF, leT, leF, eqT, eqF, jlt, jle, jeq, jlt0, jle0, jeq0, jge0, jgt0, jinB, jnat, clt, cle, ceq, cgt, cge, lI_add, lI_sub, lI_mul, jadd, jsub, jmul, jneg, jtol, b010, b011, pv_2t, Int.toNat_natCast, Option.some.injEq, exists_eq_left', if_true, if_false, N, e1, or_true, true_or, show Int32.ofNat 6500 = iI 6500 from rfl]
    refine vs_ok 5 ?_
    rw [show ((gRes 53).drop 34).take 5 = [.aload 0, .getfield 4002, .iload 5, .iaload, .ireturn] from rfl]
    simp (disch := omega) only [vs_getfield, vs_iaload, vs_ireturn, vs_aload0, vs_iload5, vs_nil, gv_0, gv_1, gv_2, gv_3, pv_0, pv_1, va_rf_s, Nat.reduceDiv, Nat.reduceMod, Nat.reduceAdd, Nat.reduceMul, Int.reduceToNat, true_and, and_true, and_self, cP_eq, cP_ne, cP_lt, cP_ge, cP_gt, cP_le, eL_i, eL_l, eL_r, eL_n, Option.toList_none, Option.toList_some, List.nil_append, List.cons_append, kkI, llI, nnI, rrI, jjI, kkJ, llJ, nnJ, rrJ, iiJ, zIIs, zJJs, nEF, nET, and_false, false_and, jmin, jmax, catS_n, catS_i, catS_r, catS_l, Nat.reduceLeDiff, j1eq1, n21, jt0, jt1, Bool.false_eq_true, Classical.not_not, true_or, or_true, false_or, or_false, true_imp_iff, false_imp_iff, not_true_eq_false, not_false_eq_true, jif0, jif1, jifb, ltT, ltF, leT, leF, eqT, eqF, jlt, jle, jeq, jlt0, jle0, jeq0, jge0, jgt0, jinB, jnat, clt, cle, ceq, cgt, cge, lI_add, lI_sub, lI_mul, jadd, jsub, jmul, jneg, jtol, b010, b011, pv_2t, Int.toNat_natCast, Option.some.injEq, exists_eq_left', if_true, if_false, N, hv, show gRc 53 = 1 from rfl]
    exact hq
  by_cases c : w = 0
  · refine vs_ok 6 ?_
    rw [show ((gRes 53).drop 11).take 6 = [.istore 4, .iload 4, .iconst 65, .imul, .iload 2, .ifCond .ne 19] from rfl]
    simp (disch := omega) only [vs_imul, vs_iconst, vs_ifCond, vs_iload2, vs_iload4, vs_istore4n, vs_istore4i, vs_istore4r, vs_istore4l, vs_nil, gv_0, gv_1, gv_2, gv_3, pv_0, pv_1, va_rf_s, Nat.reduceDiv, Nat.reduceMod, Nat.reduceAdd, Nat.reduceMul, Int.reduceToNat, true_and, and_true, and_self, cP_eq, cP_ne, cP_lt, cP_ge, cP_gt, cP_le, eL_i, eL_l, eL_r, eL_n, Option.toList_none, Option.toList_some, List.nil_append, List.cons_append, kkI, llI, nnI, rrI, jjI, kkJ, llJ, nnJ, rrJ, iiJ, zIIs, zJJs, nEF, nET, and_false, false_and, jmin, jmax, catS_n, catS_i, catS_r, catS_l, Nat.reduceLeDiff, j1eq1, n21, jt0, jt1, Bool.false_eq_true, Classical.not_not, true_or, or_true, false_or, or_false, true_imp_iff, false_imp_iff, not_true_eq_false, not_false_eq_true, jif0, jif1, jifb, ltT, ltF, leT, leF, eqT, eqF, jlt, jle, jeq, jlt0, jle0, jeq0, jge0, jgt0, jinB, jnat, clt, cle, ceq, cgt, cge, lI_add, lI_sub, lI_mul, jadd, jsub, jmul, jneg, jtol, b010, b011, pv_2t, Int.toNat_natCast, Option.some.injEq, exists_eq_left', if_true, if_false]
    refine vs_ok 2 ?_
    rw [show ((gRes 53).drop 17).take 2 = [.iconst 0, .goto 21] from rfl]
    simp (disch := omega) only [vs_iconst, vs_goto, vs_nil, gv_0, gv_1, gv_2, gv_3, pv_0, pv_1, va_rf_s, Nat.reduceDiv, Nat.reduceMod, Nat.reduceAdd, Nat.reduceMul, Int.reduceToNat, true_and, and_true, and_self, cP_eq, cP_ne, cP_lt, cP_ge, cP_gt, cP_le, eL_i, eL_l, eL_r, eL_n, Option.toList_none, Option.toList_some, List.nil_append, List.cons_append, kkI, llI, nnI, rrI, jjI, kkJ, llJ, nnJ, rrJ, iiJ, zIIs, zJJs, nEF, nET, and_false, false_and, jmin, jmax, catS_n, catS_i, catS_r, catS_l, Nat.reduceLeDiff, j1eq1, n21, jt0, jt1, Bool.false_eq_true, Classical.not_not, true_or, or_true, false_or, or_false, true_imp_iff, false_imp_iff, not_true_eq_false, not_false_eq_true, jif0, jif1, jifb, ltT, ltF, leT, leF, eqT, eqF, jlt, jle, jeq, jlt0, jle0, jeq0, jge0, jgt0, jinB, jnat, clt, cle, ceq, cgt, cge, lI_add, lI_sub, lI_mul, jadd, jsub, jmul, jneg, jtol, b010, b011, pv_2t, Int.toNat_natCast, Option.some.injEq, exists_eq_left', if_true, if_false]
    exact p21 0 (by rw [if_pos c])
  · refine vs_ok 6 ?_
    rw [show ((gRes 53).drop 11).take 6 = [.istore 4, .iload 4, .iconst 65, .imul, .iload 2, .ifCond .ne 19] from rfl]
    simp (disch := omega) only [vs_imul, vs_iconst, vs_ifCond, vs_iload2, vs_iload4, vs_istore4n, vs_istore4i, vs_istore4r, vs_istore4l, vs_nil, gv_0, gv_1, gv_2, gv_3, pv_0, pv_1, va_rf_s, Nat.reduceDiv, Nat.reduceMod, Nat.reduceAdd, Nat.reduceMul, Int.reduceToNat, true_and, and_true, and_self, cP_eq, cP_ne, cP_lt, cP_ge, cP_gt, cP_le, eL_i, eL_l, eL_r, eL_n, Option.toList_none, Option.toList_some, List.nil_append, List.cons_append, kkI, llI, nnI, rrI, jjI, kkJ, llJ, nnJ, rrJ, iiJ, zIIs, zJJs, nEF, nET, and_false, false_and, jmin, jmax, catS_n, catS_i, catS_r, catS_l, Nat.reduceLeDiff, j1eq1, n21, jt0, jt1, Bool.false_eq_true, Classical.not_not, true_or, or_true, false_or, or_false, true_imp_iff, false_imp_iff, not_true_eq_false, not_false_eq_true, jif0, jif1, jifb, ltT, ltF, leT, leF, eqT, eqF, jlt, jle, jeq, jlt0, jle0, jeq0, jge0, jgt0, jinB, jnat, clt, cle, ceq, cgt, cge, lI_add, lI_sub, lI_mul, jadd, jsub, jmul, jneg, jtol, b010, b011, pv_2t, Int.toNat_natCast, Option.some.injEq, exists_eq_left', if_true, if_false]
    refine vs_ok 2 ?_
    rw [show ((gRes 53).drop 19).take 2 = [.aload 0, .getfield 4040] from rfl]
    simp (disch := omega) only [vs_getfield, vs_aload0, vs_nil, gv_0, gv_1, gv_2, gv_3, pv_0, pv_1, va_rf_s, Nat.reduceDiv, Nat.reduceMod, Nat.reduceAdd, Nat.reduceMul, Int.reduceToNat, true_and, and_true, and_self, cP_eq, cP_ne, cP_lt, cP_ge, cP_gt, cP_le, eL_i, eL_l, eL_r, eL_n, Option.toList_none, Option.toList_some, List.nil_append, List.cons_append, kkI, llI, nnI, rrI, jjI, kkJ, llJ, nnJ, rrJ, iiJ, zIIs, zJJs, nEF, nET, and_false, false_and, jmin, jmax, catS_n, catS_i, catS_r, catS_l, Nat.reduceLeDiff, j1eq1, n21, jt0, jt1, Bool.false_eq_true, Classical.not_not, true_or, or_true, false_or, or_false, true_imp_iff, false_imp_iff, not_true_eq_false, not_false_eq_true, jif0, jif1, jifb, ltT, ltF, leT, leF, eqT, eqF, jlt, jle, jeq, jlt0, jle0, jeq0, jge0, jgt0, jinB, jnat, clt, cle, ceq, cgt, cge, lI_add, lI_sub, lI_mul, jadd, jsub, jmul, jneg, jtol, b010, b011, pv_2t, Int.toNat_natCast, Option.some.injEq, exists_eq_left', if_true, if_false, N, h4]
    exact p21 p (by rw [if_neg c])
