/-! the Model: others, whole -/
/-- from the two dice on -/
theorem t_M_othGo {D : Nat} {g : Hp} {m A B p q l na nb : Nat} {u1 u2 : Nat → Int} {Q : Nat → Option Value → Hp → Prop} (hg : mO g m) (hA : A < 12) (hB : B < 12) (ha : 1 ≤ na ∧ na ≤ 8) (hb : 1 ≤ nb ∧ nb ≤ 8) (FA : zI g (m + 6) A = iI na) (FB : zI g (m + 6) B = iI nb) (hf1 : ∀ i, i < na → zI g (m + 5) (12 * A + i) = iI (u1 i) ∧ 0 ≤ u1 i ∧ u1 i ≤ 60) (hf2 : ∀ i, i < nb → zI g (m + 5) (12 * B + i) = iI (u2 i) ∧ 0 ≤ u2 i ∧ u2 i ≤ 60) (hp : p ≤ 64) (hq : q ≤ 64) (hl : l ≤ 60)
    (K : ∀ g2 low high, (∀ s, s < low → tgN u1 u2 na nb s = 0) → tgN u1 u2 na nb low ≠ 0 → (∀ s, high < s → tgN u1 u2 na nb s = 0) → tgN u1 u2 na nb high ≠ 0 → low ≤ high → high ≤ 120 → fi (fun z => z = m ∨ (m + 21 ≤ z ∧ z ≤ m + 26)) g g2 → (∀ i, i < 39 ∨ 44 < i → zI g2 m i = zI g m i) → zI g2 m 41 = iI p → zI g2 m 42 = iI q → ksK g2 m (ksL p q (oLL (tgN u1 u2 na nb) p q l low high)) → Q 0 (some (.int (iI (ksL p q (oLL (tgN u1 u2 na nb) p q l low high)).1))) g2) : PW (D + 3) 242 40 [some (.ref m), some (.int (iI A)), some (.int (iI B)), some (.int (iI p)), some (.int (iI q)), some (.int (iI l)), none, none, none, none] [] g Q := by
  have tz : ∀ s, 120 < s → tgN u1 u2 na nb s = 0 := fun s hs => smN_zero na fun i hi => smN_zero nb fun j hj => by
    have a := hf1 i hi
    have b := hf2 j hj
    exact if_neg (by omega)
  have tb1 : ∀ s i, tgR u1 u2 nb s i ≤ 8 := fun s i => by
    have := smN_le (f := tgT u1 u2 s i) (b := 1) (fun j => by show (if _ then 1 else 0) ≤ 1; split <;> omega) nb
    show smN (tgT u1 u2 s i) nb ≤ 8
    omega
  have tb2 : ∀ s k, k ≤ na → smN (tgR u1 u2 nb s) k ≤ 64 := fun s k hk => by
    have := smN_le (f := tgR u1 u2 nb s) (b := 8) (fun i => tb1 s i) k
    omega
  have tb3 : ∀ s i k, k ≤ nb → smN (tgT u1 u2 s i) k ≤ 8 := fun s i k hk => by
    have := smN_le (f := tgT u1 u2 s i) (b := 1) (fun j => by show (if _ then 1 else 0) ≤ 1; split <;> omega) k
    omega
  have tb : ∀ s, tgN u1 u2 na nb s ≤ 64 := fun s => tb2 s na (Nat.le_refl na)
  obtain ⟨s0, h0, hs0⟩ : ∃ s0 : Nat, s0 ≤ 120 ∧ tgN u1 u2 na nb s0 ≠ 0 := by
    have a := hf1 0 (by omega)
    have b := hf2 0 (by omega)
    refine ⟨(u1 0 + u2 0).toNat, by omega, fun z => ?_⟩
    have x := sm_one (X := tgR u1 u2 nb (u1 0 + u2 0).toNat) na 0 (by omega)
    have y := sm_one (X := tgT u1 u2 (u1 0 + u2 0).toNat 0) nb 0 (by omega)
    have w : tgT u1 u2 (u1 0 + u2 0).toNat 0 0 = 1 := if_pos (by omega)
    change tgN u1 u2 na nb _ = 0 at z
    unfold tgN at z
    change smN (tgT u1 u2 (u1 0 + u2 0).toNat 0) nb ≤ _ at x
    omega
  -- from the lowest and highest sum on
  have p114 : ∀ (g2 : Hp) (low high : Nat), fi (fun z => z = m + 21) g g2 → (∀ s, s < 130 → zI g2 (m + 21) s = iI (tgN u1 u2 na nb s)) → (∀ s, s < low → tgN u1 u2 na nb s = 0) → tgN u1 u2 na nb low ≠ 0 → (∀ s, high < s → tgN u1 u2 na nb s = 0) → tgN u1 u2 na nb high ≠ 0 → high ≤ 120 → PW (D + 3) 242 114 [some (.ref m), some (.int (iI A)), some (.int (iI B)), some (.int (iI p)), some (.int (iI q)), some (.int (iI l)), some (.int (iI low)), some (.int (iI high)), none, none] [] g2 Q := fun g2 low high f2 tg l1 l2 h1 h2 hh => by
    have hlh : low ≤ high := by
      by_cases c : high < low
      · exact absurd (l1 high c) h2
      · omega
    have hg2 := hg.fi f2
    have M2 := hg2.k
    refine vs_ok 12 ?_
    rw [show ((gRes 242).drop 114).take 12 = [.aload 0, .iconst 0, .putfield 12390, .aload 0, .iconst 0, .putfield 12400, .aload 0, .iload 3, .putfield 12410, .aload 0, .iload 4, .putfield 12420] from rfl]
    simp (disch := omega) only [vs_iconst, vs_putfield, vs_aload0, vs_iload3, vs_iload4, vs_nil, gv_0, gv_1, gv_2, gv_3, pv_0, pv_1, va_rf_s, Nat.reduceDiv, Nat.reduceMod, Nat.reduceAdd, Nat.reduceMul, Int.reduceToNat, true_and, and_true, and_self, cP_eq, cP_ne, cP_lt, cP_ge, cP_gt, cP_le, eL_i, eL_l, eL_r, eL_n, Option.toList_none, Option.toList_some, List.nil_append, List.cons_append, kkI, llI, nnI, rrI, jjI, kkJ, llJ, nnJ, rrJ, iiJ, zIIs, zJJs, nEF, nET, and_false, false_and, jmin, jmax, catS_n, catS_i, catS_r, catS_l, Nat.reduceLeDiff, j1eq1, n21, jt0, jt1, Bool.false_eq_true, Classical.not_not, true_or, or_true, false_or, or_false, true_imp_iff, false_imp_iff, not_true_eq_false, not_false_eq_true, jif0, jif1, jifb, ltT, ltF, leT, leF, eqT, eqF, jlt, jle, jeq, jlt0, jle0, jeq0, jge0, jgt0, jinB, jnat, clt, cle, ceq, cgt, cge, lI_add, lI_sub, lI_mul, jadd, jsub, jmul, jneg, jtol, b010, b011, pv_2t, Int.toNat_natCast, Option.some.injEq, exists_eq_left', if_true, if_false, M2]
    have f3 := (((fi_I (S := fun z => z = m) (h := g2) (a := m) (i := 39) (v := iI 0) rfl).I (a := m) (i := 40) (v := iI 0) rfl).I (a := m) (i := 41) (v := iI p) rfl).I (a := m) (i := 42) (v := iI q) rfl
    generalize hG : zsI (zsI (zsI (zsI g2 m 39 (iI 0)) m 40 (iI 0)) m 41 (iI p)) m 42 (iI q) = g3 at f3
    have r3 := f3.1.2.2.2.2.2.1
    refine t_M_search (tg := tgN u1 u2 na nb) (hg2.fi f3) hp hq hl hlh hh (fun s hs => ⟨by have := tb s; omega, by rw [r3 (m + 21) (by omega)]; exact tg s hs⟩) (by omega) (by rw [← hG, zI_s, if_neg (by omega), zI_s, if_pos ⟨rfl, rfl⟩]) (by rw [← hG, zI_s, if_pos ⟨rfl, rfl⟩]) ⟨by rw [← hG, zI_s, if_neg (by omega), zI_s, if_neg (by omega), zI_s, if_neg (by omega), zI_s, if_pos ⟨rfl, rfl⟩]; rfl, Nat.zero_le _, by rw [← hG, zI_s, if_neg (by omega), zI_s, if_neg (by omega), zI_s, if_pos ⟨rfl, rfl⟩]; rfl, fun k hk => absurd hk (Nat.not_lt_zero k)⟩ (fun g4 c4 k4 => K g4 low high l1 l2 h1 h2 hlh hh (((f2.wk fun z h => by omega).tr (f3.wk fun z h => by omega)).tr (c4.1.wk fun z h => by unfold tcS at h; omega)) (fun i hi => by
      rw [c4.2 i (by omega) (by omega) (by omega) (by omega), ← hG, zI_s, if_neg (by omega), zI_s, if_neg (by omega), zI_s, if_neg (by omega), zI_s, if_neg (by omega), f2.1.2.2.2.2.2.1 m (by omega)]) (by rw [c4.2 41 (by omega) (by omega) (by omega) (by omega), ← hG, zI_s, if_neg (by omega), zI_s, if_pos ⟨rfl, rfl⟩]) (by rw [c4.2 42 (by omega) (by omega) (by omega) (by omega), ← hG, zI_s, if_pos ⟨rfl, rfl⟩]) k4) _
  have p96 : ∀ (g2 : Hp) (l6 l7 : Option Value), fi (fun z => z = m + 21) g g2 → (∀ s, s < 130 → zI g2 (m + 21) s = iI (tgN u1 u2 na nb s)) → PW (D + 3) 242 96 [some (.ref m), some (.int (iI A)), some (.int (iI B)), some (.int (iI p)), some (.int (iI q)), some (.int (iI l)), l6, l7, none, none] [] g2 Q := fun g2 l6 l7 f2 tg => by
    have hg2 := hg.fi f2
    have M2 := hg2.k
    have A21 := hg2.target
    have lph : ∀ (low : Nat), (∀ s, s < low → tgN u1 u2 na nb s = 0) → tgN u1 u2 na nb low ≠ 0 → ∀ (j v : Nat), j + s0 = v → v < 130 → (∀ s, v < s → tgN u1 u2 na nb s = 0) → PW (D + 3) 242 107 [some (.ref m), some (.int (iI A)), some (.int (iI B)), some (.int (iI p)), some (.int (iI q)), some (.int (iI l)), some (.int (iI low)), some (.int (iI v)), none, none] [] g2 Q := fun low l1 l2 j => by
      induction j with
      | zero =>
        intro v hv hv2 z
        have e : v = s0 := by omega
        subst e
        have tv := tg v hv2
        have tw := tb v
        refine vs_ok 5 ?_
        rw [show ((gRes 242).drop 107).take 5 = [.aload 0, .getfield 12332, .iload 7, .iaload, .ifCond .ne 114] from rfl]
        simp (disch := omega) only [vs_ifCond, vs_getfield, vs_iaload, vs_aload0, vs_iload7, vs_nil, gv_0, gv_1, gv_2, gv_3, pv_0, pv_1, va_rf_s, Nat.reduceDiv, Nat.reduceMod, Nat.reduceAdd, Nat.reduceMul, Int.reduceToNat, true_and, and_true, and_self, cP_eq, cP_ne, cP_lt, cP_ge, cP_gt, cP_le, eL_i, eL_l, eL_r, eL_n, Option.toList_none, Option.toList_some, List.nil_append, List.cons_append, kkI, llI, nnI, rrI, jjI, kkJ, llJ, nnJ, rrJ, iiJ, zIIs, zJJs, nEF, nET, and_false, false_and, jmin, jmax, catS_n, catS_i, catS_r, catS_l, Nat.reduceLeDiff, j1eq1, n21, jt0, jt1, Bool.false_eq_true, Classical.not_not, true_or, or_true, false_or, or_false, true_imp_iff, false_imp_iff, not_true_eq_false, not_false_eq_true, jif0, jif1, jifb, ltT, ltF, leT, leF, eqT, eqF, jlt, jle, jeq, jlt0, jle0, jeq0, jge0, jgt0, jinB, jnat, clt, cle, ceq, cgt, cge, lI_add, lI_sub, lI_mul, jadd, jsub, jmul, jneg, jtol, b010, b011, pv_2t, Int.toNat_natCast, Option.some.injEq, exists_eq_left', if_true, if_false, M2, A21, tv]
        exact p114 g2 low v f2 tg l1 l2 z hs0 h0
      | succ j ih =>
        intro v hv hv2 z
        have tv := tg v hv2
        have tw := tb v
        by_cases c : tgN u1 u2 na nb v = 0
        · have ev : (v : Int) + -1 = ((v - 1 : Nat) : Int) := by omega
          refine vs_ok 5 ?_
          rw [show ((gRes 242).drop 107).take 5 = [.aload 0, .getfield 12332, .iload 7, .iaload, .ifCond .ne 114] from rfl]
          simp (disch := omega) only [vs_ifCond, vs_getfield, vs_iaload, vs_aload0, vs_iload7, vs_nil, gv_0, gv_1, gv_2, gv_3, pv_0, pv_1, va_rf_s, Nat.reduceDiv, Nat.reduceMod, Nat.reduceAdd, Nat.reduceMul, Int.reduceToNat, true_and, and_true, and_self, cP_eq, cP_ne, cP_lt, cP_ge, cP_gt, cP_le, eL_i, eL_l, eL_r, eL_n, Option.toList_none, Option.toList_some, List.nil_append, List.cons_append, kkI, llI, nnI, rrI, jjI, kkJ, llJ, nnJ, rrJ, iiJ, zIIs, zJJs, nEF, nET, and_false, false_and, jmin, jmax, catS_n, catS_i, catS_r, catS_l, Nat.reduceLeDiff, j1eq1, n21, jt0, jt1, Bool.false_eq_true, Classical.not_not, true_or, or_true, false_or, or_false, true_imp_iff, false_imp_iff, not_true_eq_false, not_false_eq_true, jif0, jif1, jifb, ltT, ltF, leT, leF, eqT, eqF, jlt, jle, jeq, jlt0, jle0, jeq0, jge0, jgt0, jinB, jnat, clt, cle, ceq, cgt, cge, lI_add, lI_sub, lI_mul, jadd, jsub, jmul, jneg, jtol, b010, b011, pv_2t, Int.toNat_natCast, Option.some.injEq, exists_eq_left', if_true, if_false, M2, A21, tv]
          refine vs_ok 2 ?_
          rw [show ((gRes 242).drop 112).take 2 = [.iinc 7 (-1), .goto 107] from rfl]
          simp (disch := omega) only [vs_goto, vs_iinc7n, vs_iinc7i, vs_iinc7r, vs_iinc7l, vs_nil, gv_0, gv_1, gv_2, gv_3, pv_0, pv_1, va_rf_s, Nat.reduceDiv, Nat.reduceMod, Nat.reduceAdd, Nat.reduceMul, Int.reduceToNat, true_and, and_true, and_self, cP_eq, cP_ne, cP_lt, cP_ge, cP_gt, cP_le, eL_i, eL_l, eL_r, eL_n, Option.toList_none, Option.toList_some, List.nil_append, List.cons_append, kkI, llI, nnI, rrI, jjI, kkJ, llJ, nnJ, rrJ, iiJ, zIIs, zJJs, nEF, nET, and_false, false_and, jmin, jmax, catS_n, catS_i, catS_r, catS_l, Nat.reduceLeDiff, j1eq1, n21, jt0, jt1, Bool.false_eq_true, Classical.not_not, true_or, or_true, false_or, or_false, true_imp_iff, false_imp_iff, not_true_eq_false, not_false_eq_true, jif0, jif1, jifb, ltT, ltF, leT, leF, eqT, eqF, jlt, jle, jeq, jlt0, jle0, jeq0, jge0, jgt0, jinB, jnat, clt, cle, ceq, cgt, cge, lI_add, lI_sub, lI_mul, jadd, jsub, jmul, jneg, jtol, b010, b011, pv_2t, Int.toNat_natCast, Option.some.injEq, exists_eq_left', if_true, if_false, ev]
          exact ih (v - 1) (by omega) (by omega) fun s hs => by
            by_cases c2 : s = v
            · rw [c2]; exact c
            · exact z s (by omega)
        · have c120 : v ≤ 120 := by
            by_cases c2 : v ≤ 120
            · exact c2
            · exact absurd (tz v (by omega)) c
          refine vs_ok 5 ?_
          rw [show ((gRes 242).drop 107).take 5 = [.aload 0, .getfield 12332, .iload 7, .iaload, .ifCond .ne 114] from rfl]
          simp (disch := omega) only [vs_ifCond, vs_getfield, vs_iaload, vs_aload0, vs_iload7, vs_nil, gv_0, gv_1, gv_2, gv_3, pv_0, pv_1, va_rf_s, Nat.reduceDiv, Nat.reduceMod, Nat.reduceAdd, Nat.reduceMul, Int.reduceToNat, true_and, and_true, and_self, cP_eq, cP_ne, cP_lt, cP_ge, cP_gt, cP_le, eL_i, eL_l, eL_r, eL_n, Option.toList_none, Option.toList_some, List.nil_append, List.cons_append, kkI, llI, nnI, rrI, jjI, kkJ, llJ, nnJ, rrJ, iiJ, zIIs, zJJs, nEF, nET, and_false, false_and, jmin, jmax, catS_n, catS_i, catS_r, catS_l, Nat.reduceLeDiff, j1eq1, n21, jt0, jt1, Bool.false_eq_true, Classical.not_not, true_or, or_true, false_or, or_false, true_imp_iff, false_imp_iff, not_true_eq_false, not_false_eq_true, jif0, jif1, jifb, ltT, ltF, leT, leF, eqT, eqF, jlt, jle, jeq, jlt0, jle0, jeq0, jge0, jgt0, jinB, jnat, clt, cle, ceq, cgt, cge, lI_add, lI_sub, lI_mul, jadd, jsub, jmul, jneg, jtol, b010, b011, pv_2t, Int.toNat_natCast, Option.some.injEq, exists_eq_left', if_true, if_false, M2, A21, tv]
          exact p114 g2 low v f2 tg l1 l2 z c c120
    have lpl : ∀ (j v : Nat), j + v = s0 → (∀ s, s < v → tgN u1 u2 na nb s = 0) → PW (D + 3) 242 98 [some (.ref m), some (.int (iI A)), some (.int (iI B)), some (.int (iI p)), some (.int (iI q)), some (.int (iI l)), some (.int (iI v)), l7, none, none] [] g2 Q := fun j => by
      induction j with
      | zero =>
        intro v hv z
        have e : v = s0 := by omega
        subst e
        have tv := tg v (by omega)
        have tw := tb v
        refine vs_ok 5 ?_
        rw [show ((gRes 242).drop 98).take 5 = [.aload 0, .getfield 12332, .iload 6, .iaload, .ifCond .ne 105] from rfl]
        simp (disch := omega) only [vs_ifCond, vs_getfield, vs_iaload, vs_aload0, vs_iload6, vs_nil, gv_0, gv_1, gv_2, gv_3, pv_0, pv_1, va_rf_s, Nat.reduceDiv, Nat.reduceMod, Nat.reduceAdd, Nat.reduceMul, Int.reduceToNat, true_and, and_true, and_self, cP_eq, cP_ne, cP_lt, cP_ge, cP_gt, cP_le, eL_i, eL_l, eL_r, eL_n, Option.toList_none, Option.toList_some, List.nil_append, List.cons_append, kkI, llI, nnI, rrI, jjI, kkJ, llJ, nnJ, rrJ, iiJ, zIIs, zJJs, nEF, nET, and_false, false_and, jmin, jmax, catS_n, catS_i, catS_r, catS_l, Nat.reduceLeDiff, j1eq1, n21, jt0, jt1, Bool.false_eq_true, Classical.not_not, true_or, or_true, false_or, or_false, true_imp_iff, false_imp_iff, not_true_eq_false, not_false_eq_true, jif0, jif1, jifb, ltT, ltF, leT, leF, eqT, eqF, jlt, jle, jeq, jlt0, jle0, jeq0, jge0, jgt0, jinB, jnat, clt, cle, ceq, cgt, cge, lI_add, lI_sub, lI_mul, jadd, jsub, jmul, jneg, jtol, b010, b011, pv_2t, Int.toNat_natCast, Option.some.injEq, exists_eq_left', if_true, if_false, M2, A21, tv]
        refine vs_ok 2 ?_
        rw [show ((gRes 242).drop 105).take 2 = [.iconst 129, .istore 7] from rfl]
        simp (disch := omega) only [vs_iconst, vs_istore7n, vs_istore7i, vs_istore7r, vs_istore7l, vs_nil, gv_0, gv_1, gv_2, gv_3, pv_0, pv_1, va_rf_s, Nat.reduceDiv, Nat.reduceMod, Nat.reduceAdd, Nat.reduceMul, Int.reduceToNat, true_and, and_true, and_self, cP_eq, cP_ne, cP_lt, cP_ge, cP_gt, cP_le, eL_i, eL_l, eL_r, eL_n, Option.toList_none, Option.toList_some, List.nil_append, List.cons_append, kkI, llI, nnI, rrI, jjI, kkJ, llJ, nnJ, rrJ, iiJ, zIIs, zJJs, nEF, nET, and_false, false_and, jmin, jmax, catS_n, catS_i, catS_r, catS_l, Nat.reduceLeDiff, j1eq1, n21, jt0, jt1, Bool.false_eq_true, Classical.not_not, true_or, or_true, false_or, or_false, true_imp_iff, false_imp_iff, not_true_eq_false, not_false_eq_true, jif0, jif1, jifb, ltT, ltF, leT, leF, eqT, eqF, jlt, jle, jeq, jlt0, jle0, jeq0, jge0, jgt0, jinB, jnat, clt, cle, ceq, cgt, cge, lI_add, lI_sub, lI_mul, jadd, jsub, jmul, jneg, jtol, b010, b011, pv_2t, Int.toNat_natCast, Option.some.injEq, exists_eq_left', if_true, if_false]
        exact lph v z hs0 (129 - v) 129 (by omega) (by omega) fun s hs => tz s (by omega)
      | succ j ih =>
        intro v hv z
        have tv := tg v (by omega)
        have tw := tb v
        by_cases c : tgN u1 u2 na nb v = 0
        · refine vs_ok 5 ?_
          rw [show ((gRes 242).drop 98).take 5 = [.aload 0, .getfield 12332, .iload 6, .iaload, .ifCond .ne 105] from rfl]
          simp (disch := omega) only [vs_ifCond, vs_getfield, vs_iaload, vs_aload0, vs_iload6, vs_nil, gv_0, gv_1, gv_2, gv_3, pv_0, pv_1, va_rf_s, Nat.reduceDiv, Nat.reduceMod, Nat.reduceAdd, Nat.reduceMul, Int.reduceToNat, true_and, and_true, and_self, cP_eq, cP_ne, cP_lt, cP_ge, cP_gt, cP_le, eL_i, eL_l, eL_r, eL_n, Option.toList_none, Option.toList_some, List.nil_append, List.cons_append, kkI, llI, nnI, rrI, jjI, kkJ, llJ, nnJ, rrJ, iiJ, zIIs, zJJs, nEF, nET, and_false, false_and, jmin, jmax, catS_n, catS_i, catS_r, catS_l, Nat.reduceLeDiff, j1eq1, n21, jt0, jt1, Bool.false_eq_true, Classical.not_not, true_or, or_true, false_or, or_false, true_imp_iff, false_imp_iff, not_true_eq_false, not_false_eq_true, jif0, jif1, jifb, ltT, ltF, leT, leF, eqT, eqF, jlt, jle, jeq, jlt0, jle0, jeq0, jge0, jgt0, jinB, jnat, clt, cle, ceq, cgt, cge, lI_add, lI_sub, lI_mul, jadd, jsub, jmul, jneg, jtol, b010, b011, pv_2t, Int.toNat_natCast, Option.some.injEq, exists_eq_left', if_true, if_false, M2, A21, tv]
          refine vs_ok 2 ?_
          rw [show ((gRes 242).drop 103).take 2 = [.iinc 6 1, .goto 98] from rfl]
          simp (disch := omega) only [vs_goto, vs_iinc6n, vs_iinc6i, vs_iinc6r, vs_iinc6l, vs_nil, gv_0, gv_1, gv_2, gv_3, pv_0, pv_1, va_rf_s, Nat.reduceDiv, Nat.reduceMod, Nat.reduceAdd, Nat.reduceMul, Int.reduceToNat, true_and, and_true, and_self, cP_eq, cP_ne, cP_lt, cP_ge, cP_gt, cP_le, eL_i, eL_l, eL_r, eL_n, Option.toList_none, Option.toList_some, List.nil_append, List.cons_append, kkI, llI, nnI, rrI, jjI, kkJ, llJ, nnJ, rrJ, iiJ, zIIs, zJJs, nEF, nET, and_false, false_and, jmin, jmax, catS_n, catS_i, catS_r, catS_l, Nat.reduceLeDiff, j1eq1, n21, jt0, jt1, Bool.false_eq_true, Classical.not_not, true_or, or_true, false_or, or_false, true_imp_iff, false_imp_iff, not_true_eq_false, not_false_eq_true, jif0, jif1, jifb, ltT, ltF, leT, leF, eqT, eqF, jlt, jle, jeq, jlt0, jle0, jeq0, jge0, jgt0, jinB, jnat, clt, cle, ceq, cgt, cge, lI_add, lI_sub, lI_mul, jadd, jsub, jmul, jneg, jtol, b010, b011, pv_2t, Int.toNat_natCast, Option.some.injEq, exists_eq_left', if_true, if_false]
          exact ih (v + 1) (by omega) fun s hs => by
            by_cases c2 : s = v
            · rw [c2]; exact c
            · exact z s (by omega)
        · refine vs_ok 5 ?_
          rw [show ((gRes 242).drop 98).take 5 = [.aload 0, .getfield 12332, .iload 6, .iaload, .ifCond .ne 105] from rfl]
          simp (disch := omega) only [vs_ifCond, vs_getfield, vs_iaload, vs_aload0, vs_iload6, vs_nil, gv_0, gv_1, gv_2, gv_3, pv_0, pv_1, va_rf_s, Nat.reduceDiv, Nat.reduceMod, Nat.reduceAdd, Nat.reduceMul, Int.reduceToNat, true_and, and_true, and_self, cP_eq, cP_ne, cP_lt, cP_ge, cP_gt, cP_le, eL_i, eL_l, eL_r, eL_n, Option.toList_none, Option.toList_some, List.nil_append, List.cons_append, kkI, llI, nnI, rrI, jjI, kkJ, llJ, nnJ, rrJ, iiJ, zIIs, zJJs, nEF, nET, and_false, false_and, jmin, jmax, catS_n, catS_i, catS_r, catS_l, Nat.reduceLeDiff, j1eq1, n21, jt0, jt1, Bool.false_eq_true, Classical.not_not, true_or, or_true, false_or, or_false, true_imp_iff, false_imp_iff, not_true_eq_false, not_false_eq_true, jif0, jif1, jifb, ltT, ltF, leT, leF, eqT, eqF, jlt, jle, jeq, jlt0, jle0, jeq0, jge0, jgt0, jinB, jnat, clt, cle, ceq, cgt, cge, lI_add, lI_sub, lI_mul, jadd, jsub, jmul, jneg, jtol, b010, b011, pv_2t, Int.toNat_natCast, Option.some.injEq, exists_eq_left', if_true, if_false, M2, A21, tv]
          refine vs_ok 2 ?_
          rw [show ((gRes 242).drop 105).take 2 = [.iconst 129, .istore 7] from rfl]
          simp (disch := omega) only [vs_iconst, vs_istore7n, vs_istore7i, vs_istore7r, vs_istore7l, vs_nil, gv_0, gv_1, gv_2, gv_3, pv_0, pv_1, va_rf_s, Nat.reduceDiv, Nat.reduceMod, Nat.reduceAdd, Nat.reduceMul, Int.reduceToNat, true_and, and_true, and_self, cP_eq, cP_ne, cP_lt, cP_ge, cP_gt, cP_le, eL_i, eL_l, eL_r, eL_n, Option.toList_none, Option.toList_some, List.nil_append, List.cons_append, kkI, llI, nnI, rrI, jjI, kkJ, llJ, nnJ, rrJ, iiJ, zIIs, zJJs, nEF, nET, and_false, false_and, jmin, jmax, catS_n, catS_i, catS_r, catS_l, Nat.reduceLeDiff, j1eq1, n21, jt0, jt1, Bool.false_eq_true, Classical.not_not, true_or, or_true, false_or, or_false, true_imp_iff, false_imp_iff, not_true_eq_false, not_false_eq_true, jif0, jif1, jifb, ltT, ltF, leT, leF, eqT, eqF, jlt, jle, jeq, jlt0, jle0, jeq0, jge0, jgt0, jinB, jnat, clt, cle, ceq, cgt, cge, lI_add, lI_sub, lI_mul, jadd, jsub, jmul, jneg, jtol, b010, b011, pv_2t, Int.toNat_natCast, Option.some.injEq, exists_eq_left', if_true, if_false]
          exact lph v z c (129 - s0) 129 (by omega) (by omega) fun s hs => tz s (by omega)
    refine vs_ok 2 ?_
    rw [show ((gRes 242).drop 96).take 2 = [.iconst 0, .istore 6] from rfl]
    simp (disch := omega) only [vs_iconst, vs_istore6n, vs_istore6i, vs_istore6r, vs_istore6l, vs_nil, gv_0, gv_1, gv_2, gv_3, pv_0, pv_1, va_rf_s, Nat.reduceDiv, Nat.reduceMod, Nat.reduceAdd, Nat.reduceMul, Int.reduceToNat, true_and, and_true, and_self, cP_eq, cP_ne, cP_lt, cP_ge, cP_gt, cP_le, eL_i, eL_l, eL_r, eL_n, Option.toList_none, Option.toList_some, List.nil_append, List.cons_append, kkI, llI, nnI, rrI, jjI, kkJ, llJ, nnJ, rrJ, iiJ, zIIs, zJJs, nEF, nET, and_false, false_and, jmin, jmax, catS_n, catS_i, catS_r, catS_l, Nat.reduceLeDiff, j1eq1, n21, jt0, jt1, Bool.false_eq_true, Classical.not_not, true_or, or_true, false_or, or_false, true_imp_iff, false_imp_iff, not_true_eq_false, not_false_eq_true, jif0, jif1, jifb, ltT, ltF, leT, leF, eqT, eqF, jlt, jle, jeq, jlt0, jle0, jeq0, jge0, jgt0, jinB, jnat, clt, cle, ceq, cgt, cge, lI_add, lI_sub, lI_mul, jadd, jsub, jmul, jneg, jtol, b010, b011, pv_2t, Int.toNat_natCast, Option.some.injEq, exists_eq_left', if_true, if_false]
    exact lpl s0 0 (by omega) fun s hs => absurd hs (Nat.not_lt_zero s)
  have p52 : ∀ (g2 : Hp), fi (fun z => z = m + 21) g g2 → (∀ s, s < 130 → zI g2 (m + 21) s = iI 0) → PW (D + 3) 242 52 [some (.ref m), some (.int (iI A)), some (.int (iI B)), some (.int (iI p)), some (.int (iI q)), some (.int (iI l)), some (.int (iI 130)), none, none, none] [] g2 Q := fun g2 f2 tg => by
    have lpi : ∀ (j i : Nat), j + i = na → ∀ (g2 : Hp) (l7 : Option Value), fi (fun z => z = m + 21) g g2 → (∀ s, s < 130 → zI g2 (m + 21) s = iI (smN (tgR u1 u2 nb s) i)) → PW (D + 3) 242 54 [some (.ref m), some (.int (iI A)), some (.int (iI B)), some (.int (iI p)), some (.int (iI q)), some (.int (iI l)), some (.int (iI i)), l7, none, none] [] g2 Q := fun j => by
      induction j with
      | zero =>
        intro i hi g2 l7 f2 tg
        have e : i = na := by omega
        subst e
        have hg2 := hg.fi f2
        have M2 := hg2.k
        have A6 := hg2.faceMany
        have FA : zI g2 (m + 6) A = iI i := by rw [f2.1.2.2.2.2.2.1 (m + 6) (by omega)]; exact FA
        refine vs_ok 6 ?_
        rw [show ((gRes 242).drop 54).take 6 = [.iload 6, .aload 0, .getfield 12102, .iload 1, .iaload, .if_icmp .ge 96] from rfl]
        simp (disch := omega) only [vs_if_icmp, vs_getfield, vs_iaload, vs_aload0, vs_iload1, vs_iload6, vs_nil, gv_0, gv_1, gv_2, gv_3, pv_0, pv_1, va_rf_s, Nat.reduceDiv, Nat.reduceMod, Nat.reduceAdd, Nat.reduceMul, Int.reduceToNat, true_and, and_true, and_self, cP_eq, cP_ne, cP_lt, cP_ge, cP_gt, cP_le, eL_i, eL_l, eL_r, eL_n, Option.toList_none, Option.toList_some, List.nil_append, List.cons_append, kkI, llI, nnI, rrI, jjI, kkJ, llJ, nnJ, rrJ, iiJ, zIIs, zJJs, nEF, nET, and_false, false_and, jmin, jmax, catS_n, catS_i, catS_r, catS_l, Nat.reduceLeDiff, j1eq1, n21, jt0, jt1, Bool.false_eq_true, Classical.not_not, true_or, or_true, false_or, or_false, true_imp_iff, false_imp_iff, not_true_eq_false, not_false_eq_true, jif0, jif1, jifb, ltT, ltF, leT, leF, eqT, eqF, jlt, jle, jeq, jlt0, jle0, jeq0, jge0, jgt0, jinB, jnat, clt, cle, ceq, cgt, cge, lI_add, lI_sub, lI_mul, jadd, jsub, jmul, jneg, jtol, b010, b011, pv_2t, Int.toNat_natCast, Option.some.injEq, exists_eq_left', if_true, if_false, M2, A6, FA]
        exact p96 g2 _ _ f2 tg
      | succ j ih =>
        intro i hi g2 l7 f2 tg
        have hg2 := hg.fi f2
        have M2 := hg2.k
        have A6 := hg2.faceMany
        have FA : zI g2 (m + 6) A = iI na := by rw [f2.1.2.2.2.2.2.1 (m + 6) (by omega)]; exact FA
        have lpj : ∀ (k r : Nat), k + r = nb → ∀ (g2 : Hp), fi (fun z => z = m + 21) g g2 → (∀ s, s < 130 → zI g2 (m + 21) s = iI ((smN (tgR u1 u2 nb s) i + smN (tgT u1 u2 s i) r : Nat) : Int)) → PW (D + 3) 242 62 [some (.ref m), some (.int (iI A)), some (.int (iI B)), some (.int (iI p)), some (.int (iI q)), some (.int (iI l)), some (.int (iI i)), some (.int (iI r)), none, none] [] g2 Q := fun k => by
          induction k with
          | zero =>
            intro r hr g2 f2 tg
            have e : r = nb := by omega
            subst e
            have hg2 := hg.fi f2
            have M2 := hg2.k
            have A6 := hg2.faceMany
            have FB : zI g2 (m + 6) B = iI r := by rw [f2.1.2.2.2.2.2.1 (m + 6) (by omega)]; exact FB
            refine vs_ok 6 ?_
            rw [show ((gRes 242).drop 62).take 6 = [.iload 7, .aload 0, .getfield 12102, .iload 2, .iaload, .if_icmp .ge 94] from rfl]
            simp (disch := omega) only [vs_if_icmp, vs_getfield, vs_iaload, vs_aload0, vs_iload2, vs_iload7, vs_nil, gv_0, gv_1, gv_2, gv_3, pv_0, pv_1, va_rf_s, Nat.reduceDiv, Nat.reduceMod, Nat.reduceAdd, Nat.reduceMul, Int.reduceToNat, true_and, and_true, and_self, cP_eq, cP_ne, cP_lt, cP_ge, cP_gt, cP_le, eL_i, eL_l, eL_r, eL_n, Option.toList_none, Option.toList_some, List.nil_append, List.cons_append, kkI, llI, nnI, rrI, jjI, kkJ, llJ, nnJ, rrJ, iiJ, zIIs, zJJs, nEF, nET, and_false, false_and, jmin, jmax, catS_n, catS_i, catS_r, catS_l, Nat.reduceLeDiff, j1eq1, n21, jt0, jt1, Bool.false_eq_true, Classical.not_not, true_or, or_true, false_or, or_false, true_imp_iff, false_imp_iff, not_true_eq_false, not_false_eq_true, jif0, jif1, jifb, ltT, ltF, leT, leF, eqT, eqF, jlt, jle, jeq, jlt0, jle0, jeq0, jge0, jgt0, jinB, jnat, clt, cle, ceq, cgt, cge, lI_add, lI_sub, lI_mul, jadd, jsub, jmul, jneg, jtol, b010, b011, pv_2t, Int.toNat_natCast, Option.some.injEq, exists_eq_left', if_true, if_false, M2, A6, FB]
            refine vs_ok 2 ?_
            rw [show ((gRes 242).drop 94).take 2 = [.iinc 6 1, .goto 54] from rfl]
            simp (disch := omega) only [vs_goto, vs_iinc6n, vs_iinc6i, vs_iinc6r, vs_iinc6l, vs_nil, gv_0, gv_1, gv_2, gv_3, pv_0, pv_1, va_rf_s, Nat.reduceDiv, Nat.reduceMod, Nat.reduceAdd, Nat.reduceMul, Int.reduceToNat, true_and, and_true, and_self, cP_eq, cP_ne, cP_lt, cP_ge, cP_gt, cP_le, eL_i, eL_l, eL_r, eL_n, Option.toList_none, Option.toList_some, List.nil_append, List.cons_append, kkI, llI, nnI, rrI, jjI, kkJ, llJ, nnJ, rrJ, iiJ, zIIs, zJJs, nEF, nET, and_false, false_and, jmin, jmax, catS_n, catS_i, catS_r, catS_l, Nat.reduceLeDiff, j1eq1, n21, jt0, jt1, Bool.false_eq_true, Classical.not_not, true_or, or_true, false_or, or_false, true_imp_iff, false_imp_iff, not_true_eq_false, not_false_eq_true, jif0, jif1, jifb, ltT, ltF, leT, leF, eqT, eqF, jlt, jle, jeq, jlt0, jle0, jeq0, jge0, jgt0, jinB, jnat, clt, cle, ceq, cgt, cge, lI_add, lI_sub, lI_mul, jadd, jsub, jmul, jneg, jtol, b010, b011, pv_2t, Int.toNat_natCast, Option.some.injEq, exists_eq_left', if_true, if_false]
            exact ih (i + 1) (by omega) g2 _ f2 tg
          | succ k ihk =>
            intro r hr g2 f2 tg
            have hg2 := hg.fi f2
            have M2 := hg2.k
            have A6 := hg2.faceMany
            have A5 := hg2.faces
            have A21 := hg2.target
            have FB : zI g2 (m + 6) B = iI nb := by rw [f2.1.2.2.2.2.2.1 (m + 6) (by omega)]; exact FB
            have b1 := hf1 i (by omega)
            have b2 := hf2 r (by omega)
            have F1 : zI g2 (m + 5) (12 * A + i) = iI (u1 i) := by rw [f2.1.2.2.2.2.2.1 (m + 5) (by omega)]; exact b1.1
            have F2 : zI g2 (m + 5) (12 * B + r) = iI (u2 r) := by rw [f2.1.2.2.2.2.2.1 (m + 5) (by omega)]; exact b2.1
            have e1 : (12 : Int) * (A : Int) + (i : Int) = ((12 * A + i : Nat) : Int) := by omega
            have e2 : (12 : Int) * (B : Int) + (r : Int) = ((12 * B + r : Nat) : Int) := by omega
            obtain ⟨v, hv⟩ : ∃ v : Nat, u1 i + u2 r = (v : Int) := ⟨(u1 i + u2 r).toNat, by omega⟩
            have tv := tg v (by omega)
            have c1 := tb2 v i (by omega)
            have c2 := tb3 v i r (by omega)
            refine vs_ok 6 ?_
            rw [show ((gRes 242).drop 62).take 6 = [.iload 7, .aload 0, .getfield 12102, .iload 2, .iaload, .if_icmp .ge 94] from rfl]
            simp (disch := omega) only [vs_if_icmp, vs_getfield, vs_iaload, vs_aload0, vs_iload2, vs_iload7, vs_nil, gv_0, gv_1, gv_2, gv_3, pv_0, pv_1, va_rf_s, Nat.reduceDiv, Nat.reduceMod, Nat.reduceAdd, Nat.reduceMul, Int.reduceToNat, true_and, and_true, and_self, cP_eq, cP_ne, cP_lt, cP_ge, cP_gt, cP_le, eL_i, eL_l, eL_r, eL_n, Option.toList_none, Option.toList_some, List.nil_append, List.cons_append, kkI, llI, nnI, rrI, jjI, kkJ, llJ, nnJ, rrJ, iiJ, zIIs, zJJs, nEF, nET, and_false, false_and, jmin, jmax, catS_n, catS_i, catS_r, catS_l, Nat.reduceLeDiff, j1eq1, n21, jt0, jt1, Bool.false_eq_true, Classical.not_not, true_or, or_true, false_or, or_false, true_imp_iff, false_imp_iff, not_true_eq_false, not_false_eq_true, jif0, jif1, jifb, ltT, ltF, leT, leF, eqT, eqF, jlt, jle, jeq, jlt0, jle0, jeq0, jge0, jgt0, jinB, jnat, clt, cle, ceq, cgt, cge, lI_add, lI_sub, lI_mul, jadd, jsub, jmul, jneg, jtol, b010, b011, pv_2t, Int.toNat_natCast, Option.some.injEq, exists_eq_left', if_true, if_false, M2, A6, FB]
            refine vs_ok 24 ?_
            rw [show ((gRes 242).drop 68).take 24 = [.aload 0, .getfield 12332, .aload 0, .getfield 12092, .iconst 12, .iload 1, .imul, .iload 6, .iadd, .iaload, .aload 0, .getfield 12092, .iconst 12, .iload 2, .imul, .iload 7, .iadd, .iaload, .iadd, .dup2, .iaload, .iconst 1, .iadd, .iastore] from rfl]
            simp (disch := omega) only [vs_iadd, vs_imul, vs_iconst, vs_getfield, vs_iaload, vs_iastore, vs_dup2, vs_aload0, vs_iload1, vs_iload2, vs_iload6, vs_iload7, vs_nil, gv_0, gv_1, gv_2, gv_3, pv_0, pv_1, va_rf_s, Nat.reduceDiv, Nat.reduceMod, Nat.reduceAdd, Nat.reduceMul, Int.reduceToNat, true_and, and_true, and_self, cP_eq, cP_ne, cP_lt, cP_ge, cP_gt, cP_le, eL_i, eL_l, eL_r, eL_n, Option.toList_none, Option.toList_some, List.nil_append, List.cons_append, kkI, llI, nnI, rrI, jjI, kkJ, llJ, nnJ, rrJ, iiJ, zIIs, zJJs, nEF, nET, and_false, false_and, jmin, jmax, catS_n, catS_i, catS_r, catS_l, Nat.reduceLeDiff, j1eq1, n21, jt0, jt1, Bool.false_eq_true, Classical.not_not, true_or, or_true, false_or, or_false, true_imp_iff, false_imp_iff, not_true_eq_false, not_false_eq_true, jif0, jif1, jifb, ltT, ltF, leT, leF, eqT, eqF, jlt, jle, jeq, jlt0, jle0, jeq0, jge0, jgt0, jinB, jnat, clt, cle, ceq, cgt, cge, lI_add, lI_sub, lI_mul, jadd, jsub, jmul, jneg, jtol, b010, b011, pv_2t, Int.toNat_natCast, Option.some.injEq, exists_eq_left', if_true, if_false, M2, A5, A21, e1, e2, F1, F2, hv, tv]
            refine vs_ok 2 ?_
            rw [show ((gRes 242).drop 92).take 2 = [.iinc 7 1, .goto 62] from rfl]
            simp (disch := omega) only [vs_goto, vs_iinc7n, vs_iinc7i, vs_iinc7r, vs_iinc7l, vs_nil, gv_0, gv_1, gv_2, gv_3, pv_0, pv_1, va_rf_s, Nat.reduceDiv, Nat.reduceMod, Nat.reduceAdd, Nat.reduceMul, Int.reduceToNat, true_and, and_true, and_self, cP_eq, cP_ne, cP_lt, cP_ge, cP_gt, cP_le, eL_i, eL_l, eL_r, eL_n, Option.toList_none, Option.toList_some, List.nil_append, List.cons_append, kkI, llI, nnI, rrI, jjI, kkJ, llJ, nnJ, rrJ, iiJ, zIIs, zJJs, nEF, nET, and_false, false_and, jmin, jmax, catS_n, catS_i, catS_r, catS_l, Nat.reduceLeDiff, j1eq1, n21, jt0, jt1, Bool.false_eq_true, Classical.not_not, true_or, or_true, false_or, or_false, true_imp_iff, false_imp_iff, not_true_eq_false, not_false_eq_true, jif0, jif1, jifb, ltT, ltF, leT, leF, eqT, eqF, jlt, jle, jeq, jlt0, jle0, jeq0, jge0, jgt0, jinB, jnat, clt, cle, ceq, cgt, cge, lI_add, lI_sub, lI_mul, jadd, jsub, jmul, jneg, jtol, b010, b011, pv_2t, Int.toNat_natCast, Option.some.injEq, exists_eq_left', if_true, if_false]
            refine ihk (r + 1) (by omega) _ (f2.I rfl) fun s hs => ?_
            show zI (zsI g2 (m + 21) v _) (m + 21) s = iI ((smN (tgR u1 u2 nb s) i + (smN (tgT u1 u2 s i) r + if u1 i + u2 r = (s : Int) then 1 else 0) : Nat) : Int)
            rw [zI_s]
            by_cases c : s = v
            · rw [if_pos ⟨rfl, c⟩, if_pos (by omega), c]
              rfl
            · rw [if_neg fun z => c z.2, if_neg (by omega), Nat.add_zero]
              exact tg s hs
        refine vs_ok 6 ?_
        rw [show ((gRes 242).drop 54).take 6 = [.iload 6, .aload 0, .getfield 12102, .iload 1, .iaload, .if_icmp .ge 96] from rfl]
        simp (disch := omega) only [vs_if_icmp, vs_getfield, vs_iaload, vs_aload0, vs_iload1, vs_iload6, vs_nil, gv_0, gv_1, gv_2, gv_3, pv_0, pv_1, va_rf_s, Nat.reduceDiv, Nat.reduceMod, Nat.reduceAdd, Nat.reduceMul, Int.reduceToNat, true_and, and_true, and_self, cP_eq, cP_ne, cP_lt, cP_ge, cP_gt, cP_le, eL_i, eL_l, eL_r, eL_n, Option.toList_none, Option.toList_some, List.nil_append, List.cons_append, kkI, llI, nnI, rrI, jjI, kkJ, llJ, nnJ, rrJ, iiJ, zIIs, zJJs, nEF, nET, and_false, false_and, jmin, jmax, catS_n, catS_i, catS_r, catS_l, Nat.reduceLeDiff, j1eq1, n21, jt0, jt1, Bool.false_eq_true, Classical.not_not, true_or, or_true, false_or, or_false, true_imp_iff, false_imp_iff, not_true_eq_false, not_false_eq_true, jif0, jif1, jifb, ltT, ltF, leT, leF, eqT, eqF, jlt, jle, jeq, jlt0, jle0, jeq0, jge0, jgt0, jinB, jnat, clt, cle, ceq, cgt, cge, lI_add, lI_sub, lI_mul, jadd, jsub, jmul, jneg, jtol, b010, b011, pv_2t, Int.toNat_natCast, Option.some.injEq, exists_eq_left', if_true, if_false, M2, A6, FA]
        refine vs_ok 2 ?_
        rw [show ((gRes 242).drop 60).take 2 = [.iconst 0, .istore 7] from rfl]
        simp (disch := omega) only [vs_iconst, vs_istore7n, vs_istore7i, vs_istore7r, vs_istore7l, vs_nil, gv_0, gv_1, gv_2, gv_3, pv_0, pv_1, va_rf_s, Nat.reduceDiv, Nat.reduceMod, Nat.reduceAdd, Nat.reduceMul, Int.reduceToNat, true_and, and_true, and_self, cP_eq, cP_ne, cP_lt, cP_ge, cP_gt, cP_le, eL_i, eL_l, eL_r, eL_n, Option.toList_none, Option.toList_some, List.nil_append, List.cons_append, kkI, llI, nnI, rrI, jjI, kkJ, llJ, nnJ, rrJ, iiJ, zIIs, zJJs, nEF, nET, and_false, false_and, jmin, jmax, catS_n, catS_i, catS_r, catS_l, Nat.reduceLeDiff, j1eq1, n21, jt0, jt1, Bool.false_eq_true, Classical.not_not, true_or, or_true, false_or, or_false, true_imp_iff, false_imp_iff, not_true_eq_false, not_false_eq_true, jif0, jif1, jifb, ltT, ltF, leT, leF, eqT, eqF, jlt, jle, jeq, jlt0, jle0, jeq0, jge0, jgt0, jinB, jnat, clt, cle, ceq, cgt, cge, lI_add, lI_sub, lI_mul, jadd, jsub, jmul, jneg, jtol, b010, b011, pv_2t, Int.toNat_natCast, Option.some.injEq, exists_eq_left', if_true, if_false]
        exact lpj nb 0 rfl g2 f2 tg
    refine vs_ok 2 ?_
    rw [show ((gRes 242).drop 52).take 2 = [.iconst 0, .istore 6] from rfl]
    simp (disch := omega) only [vs_iconst, vs_istore6n, vs_istore6i, vs_istore6r, vs_istore6l, vs_nil, gv_0, gv_1, gv_2, gv_3, pv_0, pv_1, va_rf_s, Nat.reduceDiv, Nat.reduceMod, Nat.reduceAdd, Nat.reduceMul, Int.reduceToNat, true_and, and_true, and_self, cP_eq, cP_ne, cP_lt, cP_ge, cP_gt, cP_le, eL_i, eL_l, eL_r, eL_n, Option.toList_none, Option.toList_some, List.nil_append, List.cons_append, kkI, llI, nnI, rrI, jjI, kkJ, llJ, nnJ, rrJ, iiJ, zIIs, zJJs, nEF, nET, and_false, false_and, jmin, jmax, catS_n, catS_i, catS_r, catS_l, Nat.reduceLeDiff, j1eq1, n21, jt0, jt1, Bool.false_eq_true, Classical.not_not, true_or, or_true, false_or, or_false, true_imp_iff, false_imp_iff, not_true_eq_false, not_false_eq_true, jif0, jif1, jifb, ltT, ltF, leT, leF, eqT, eqF, jlt, jle, jeq, jlt0, jle0, jeq0, jge0, jgt0, jinB, jnat, clt, cle, ceq, cgt, cge, lI_add, lI_sub, lI_mul, jadd, jsub, jmul, jneg, jtol, b010, b011, pv_2t, Int.toNat_natCast, Option.some.injEq, exists_eq_left', if_true, if_false]
    exact lpi na 0 rfl g2 _ f2 tg
  have lpz : ∀ (j v : Nat), j + v = 130 → ∀ g2, fi (fun z => z = m + 21) g g2 → (∀ s, s < v → zI g2 (m + 21) s = iI 0) → PW (D + 3) 242 42 [some (.ref m), some (.int (iI A)), some (.int (iI B)), some (.int (iI p)), some (.int (iI q)), some (.int (iI l)), some (.int (iI v)), none, none, none] [] g2 Q := fun j => by
    induction j with
    | zero =>
      intro v hv g2 f2 z
      have e : v = 130 := by omega
      subst e
      refine vs_ok 3 ?_
      rw [show ((gRes 242).drop 42).take 3 = [.iload 6, .iconst 130, .if_icmp .ge 52] from rfl]
      simp (disch := omega) only [vs_iconst, vs_if_icmp, vs_iload6, vs_nil, gv_0, gv_1, gv_2, gv_3, pv_0, pv_1, va_rf_s, Nat.reduceDiv, Nat.reduceMod, Nat.reduceAdd, Nat.reduceMul, Int.reduceToNat, true_and, and_true, and_self, cP_eq, cP_ne, cP_lt, cP_ge, cP_gt, cP_le, eL_i, eL_l, eL_r, eL_n, Option.toList_none, Option.toList_some, List.nil_append, List.cons_append, kkI, llI, nnI, rrI, jjI, kkJ, llJ, nnJ, rrJ, iiJ, zIIs, zJJs, nEF, nET, and_false, false_and, jmin, jmax, catS_n, catS_i, catS_r, catS_l, Nat.reduceLeDiff, j1eq1, n21, jt0, jt1, Bool.false_eq_true, Classical.not_not, true_or, or_true, false_or, or_false, true_imp_iff, false_imp_iff, not_true_eq_false, not_false_eq_true, jif0, jif1, jifb, ltT, ltF, leT, leF, eqT, eqF, jlt, jle, jeq, jlt0, jle0, jeq0, jge0, jgt0, jinB, jnat, clt, cle, ceq, cgt, cge, lI_add, lI_sub, lI_mul, jadd, jsub, jmul, jneg, jtol, b010, b011, pv_2t, Int.toNat_natCast, Option.some.injEq, exists_eq_left', if_true, if_false]
      exact p52 g2 f2 z
    | succ j ih =>
      intro v hv g2 f2 z
      have hg2 := hg.fi f2
      have M2 := hg2.k
      have A21 := hg2.target
      refine vs_ok 3 ?_
      rw [show ((gRes 242).drop 42).take 3 = [.iload 6, .iconst 130, .if_icmp .ge 52] from rfl]
      simp (disch := omega) only [vs_iconst, vs_if_icmp, vs_iload6, vs_nil, gv_0, gv_1, gv_2, gv_3, pv_0, pv_1, va_rf_s, Nat.reduceDiv, Nat.reduceMod, Nat.reduceAdd, Nat.reduceMul, Int.reduceToNat, true_and, and_true, and_self, cP_eq, cP_ne, cP_lt, cP_ge, cP_gt, cP_le, eL_i, eL_l, eL_r, eL_n, Option.toList_none, Option.toList_some, List.nil_append, List.cons_append, kkI, llI, nnI, rrI, jjI, kkJ, llJ, nnJ, rrJ, iiJ, zIIs, zJJs, nEF, nET, and_false, false_and, jmin, jmax, catS_n, catS_i, catS_r, catS_l, Nat.reduceLeDiff, j1eq1, n21, jt0, jt1, Bool.false_eq_true, Classical.not_not, true_or, or_true, false_or, or_false, true_imp_iff, false_imp_iff, not_true_eq_false, not_false_eq_true, jif0, jif1, jifb, ltT, ltF, leT, leF, eqT, eqF, jlt, jle, jeq, jlt0, jle0, jeq0, jge0, jgt0, jinB, jnat, clt, cle, ceq, cgt, cge, lI_add, lI_sub, lI_mul, jadd, jsub, jmul, jneg, jtol, b010, b011, pv_2t, Int.toNat_natCast, Option.some.injEq, exists_eq_left', if_true, if_false]
      refine vs_ok 7 ?_
      rw [show ((gRes 242).drop 45).take 7 = [.aload 0, .getfield 12332, .iload 6, .iconst 0, .iastore, .iinc 6 1, .goto 42] from rfl]
      simp (disch := omega) only [vs_iconst, vs_goto, vs_getfield, vs_iastore, vs_aload0, vs_iload6, vs_iinc6n, vs_iinc6i, vs_iinc6r, vs_iinc6l, vs_nil, gv_0, gv_1, gv_2, gv_3, pv_0, pv_1, va_rf_s, Nat.reduceDiv, Nat.reduceMod, Nat.reduceAdd, Nat.reduceMul, Int.reduceToNat, true_and, and_true, and_self, cP_eq, cP_ne, cP_lt, cP_ge, cP_gt, cP_le, eL_i, eL_l, eL_r, eL_n, Option.toList_none, Option.toList_some, List.nil_append, List.cons_append, kkI, llI, nnI, rrI, jjI, kkJ, llJ, nnJ, rrJ, iiJ, zIIs, zJJs, nEF, nET, and_false, false_and, jmin, jmax, catS_n, catS_i, catS_r, catS_l, Nat.reduceLeDiff, j1eq1, n21, jt0, jt1, Bool.false_eq_true, Classical.not_not, true_or, or_true, false_or, or_false, true_imp_iff, false_imp_iff, not_true_eq_false, not_false_eq_true, jif0, jif1, jifb, ltT, ltF, leT, leF, eqT, eqF, jlt, jle, jeq, jlt0, jle0, jeq0, jge0, jgt0, jinB, jnat, clt, cle, ceq, cgt, cge, lI_add, lI_sub, lI_mul, jadd, jsub, jmul, jneg, jtol, b010, b011, pv_2t, Int.toNat_natCast, Option.some.injEq, exists_eq_left', if_true, if_false, M2, A21]
      refine ih (v + 1) (by omega) _ (f2.I rfl) fun s hs => ?_
      rw [zI_s]
      by_cases c : s = v
      · rw [if_pos ⟨rfl, c⟩]
      · rw [if_neg fun z => c z.2]
        exact z s (by omega)
  refine vs_ok 2 ?_
  rw [show ((gRes 242).drop 40).take 2 = [.iconst 0, .istore 6] from rfl]
  simp (disch := omega) only [vs_iconst, vs_istore6n, vs_istore6i, vs_istore6r, vs_istore6l, vs_nil, gv_0, gv_1, gv_2, gv_3, pv_0, pv_1, va_rf_s, Nat.reduceDiv, Nat.reduceMod, Nat.reduceAdd, Nat.reduceMul, Int.reduceToNat, true_and, and_true, and_self, cP_eq, cP_ne, cP_lt, cP_ge, cP_gt, cP_le, eL_i, eL_l, eL_r, eL_n, Option.toList_none, Option.toList_some, List.nil_append, List.cons_append, kkI, llI, nnI, rrI, jjI, kkJ, llJ, nnJ, rrJ, iiJ, zIIs, zJJs, nEF, nET, and_false, false_and, jmin, jmax, catS_n, catS_i, catS_r, catS_l, Nat.reduceLeDiff, j1eq1, n21, jt0, jt1, Bool.false_eq_true, Classical.not_not, true_or, or_true, false_or, or_false, true_imp_iff, false_imp_iff, not_true_eq_false, not_false_eq_true, jif0, jif1, jifb, ltT, ltF, leT, leF, eqT, eqF, jlt, jle, jeq, jlt0, jle0, jeq0, jge0, jgt0, jinB, jnat, clt, cle, ceq, cgt, cge, lI_add, lI_sub, lI_mul, jadd, jsub, jmul, jneg, jtol, b010, b011, pv_2t, Int.toNat_natCast, Option.some.injEq, exists_eq_left', if_true, if_false]
  exact lpz 130 0 rfl g fi.rf fun s hs => absurd hs (Nat.not_lt_zero s)
theorem t_M_others {D : Nat} {h : Hp} {m nm : Nat} {a b p q l : Int} {F : Nat → Int} {V : Nat → RowVal} {fl : Nat → Nat → Int} {Q : Nat → Option Value → Hp → Prop} (hm : mO h m) (n : mnS h m nm F V) (fs : faS h m 0 nm F V fl) (hF : ∀ i : Nat, (i : Int) < nm → 0 ≤ F i ∧ F i ≤ 12) (ia : i32 a) (ib : i32 b) (ip : i32 p) (iq : i32 q) (il : i32 l)
    (w0 : ¬ (smD F nm a ∧ smD F nm b ∧ (0 ≤ l ∧ l ≤ 60) ∧ 1 ≤ p ∧ p ≤ q ∧ p * q = F a.toNat * F b.toNat) → ∀ g, mt0 h g m 0 → Q 0 (some (.int (iI (-1)))) g)
    (w1 : smD F nm a ∧ smD F nm b ∧ (0 ≤ l ∧ l ≤ 60) ∧ 1 ≤ p ∧ p ≤ q ∧ p * q = F a.toNat * F b.toNat → ∀ g low high, (∀ s, s < low → tgN (fl a.toNat) (fl b.toNat) (F a.toNat).toNat (F b.toNat).toNat s = 0) → tgN (fl a.toNat) (fl b.toNat) (F a.toNat).toNat (F b.toNat).toNat low ≠ 0 → (∀ s, high < s → tgN (fl a.toNat) (fl b.toNat) (F a.toNat).toNat (F b.toNat).toNat s = 0) → tgN (fl a.toNat) (fl b.toNat) (F a.toNat).toNat (F b.toNat).toNat high ≠ 0 → low ≤ high → high ≤ 120 → fi (fun z => z = m ∨ (m + 21 ≤ z ∧ z ≤ m + 26)) h g → (∀ i, i ≠ 0 → (i < 39 ∨ 44 < i) → zI g m i = zI h m i) → zI g m 0 = iI 0 → zI g m 41 = iI p.toNat → zI g m 42 = iI q.toNat → ksK g m (ksL p.toNat q.toNat (oLL (tgN (fl a.toNat) (fl b.toNat) (F a.toNat).toNat (F b.toNat).toNat) p.toNat q.toNat l.toNat low high)) → Q 0 (some (.int (iI (ksL p.toNat q.toNat (oLL (tgN (fl a.toNat) (fl b.toNat) (F a.toNat).toNat (F b.toNat).toNat) p.toNat q.toNat l.toNat low high)).1))) g) : PR (D + 3) m_M_others [.ref m, .int (iI a), .int (iI b), .int (iI p), .int (iI q), .int (iI l)] h Q := by
  have M := hm.k
  show PW (D + 3) 242 0 [some (.ref m), some (.int (iI a)), some (.int (iI b)), some (.int (iI p)), some (.int (iI q)), some (.int (iI l)), none, none, none, none] [] h Q
  refine vs_ok 5 ?_
  rw [show ((gRes 242).drop 0).take 5 = [.aload 0, .iconst 0, .putfield 12000, .aload 0, .iload 1] from rfl]
  simp (disch := omega) only [vs_iconst, vs_putfield, vs_aload0, vs_iload1, vs_nil, gv_0, gv_1, gv_2, gv_3, pv_0, pv_1, va_rf_s, Nat.reduceDiv, Nat.reduceMod, Nat.reduceAdd, Nat.reduceMul, Int.reduceToNat, true_and, and_true, and_self, cP_eq, cP_ne, cP_lt, cP_ge, cP_gt, cP_le, eL_i, eL_l, eL_r, eL_n, Option.toList_none, Option.toList_some, List.nil_append, List.cons_append, kkI, llI, nnI, rrI, jjI, kkJ, llJ, nnJ, rrJ, iiJ, zIIs, zJJs, nEF, nET, and_false, false_and, jmin, jmax, catS_n, catS_i, catS_r, catS_l, Nat.reduceLeDiff, j1eq1, n21, jt0, jt1, Bool.false_eq_true, Classical.not_not, true_or, or_true, false_or, or_false, true_imp_iff, false_imp_iff, not_true_eq_false, not_false_eq_true, jif0, jif1, jifb, ltT, ltF, leT, leF, eqT, eqF, jlt, jle, jeq, jlt0, jle0, jeq0, jge0, jgt0, jinB, jnat, clt, cle, ceq, cgt, cge, lI_add, lI_sub, lI_mul, jadd, jsub, jmul, jneg, jtol, b010, b011, pv_2t, Int.toNat_natCast, Option.some.injEq, exists_eq_left', if_true, if_false, M]
  have z := mt0_s (h := h) (m := m) 0
  have hg := hm.fi z.1
  have ng := n.fi z.1 (by omega) (by omega) (by omega) (by omega)
  have fg : faS (zsI h m 0 (iI 0)) m 0 nm F V fl := fs.of (fun j _ _ => by rw [zI_s, if_neg (by omega)]) (fun j _ _ => by rw [zI_s, if_neg (by omega)])
  generalize zsI h m 0 (iI 0) = g at *
  have M1 := hg.k
  have A6 := hg.faceMany
  have A5 := hg.faces
  have A21 := hg.target
  have n12 := n.2.1
  have no : ¬ (smD F nm a ∧ smD F nm b ∧ (0 ≤ l ∧ l ≤ 60) ∧ 1 ≤ p ∧ p ≤ q ∧ p * q = F a.toNat * F b.toNat) → PW (D + 3) 242 38 [some (.ref m), some (.int (iI a)), some (.int (iI b)), some (.int (iI p)), some (.int (iI q)), some (.int (iI l)), none, none, none, none] [] g Q := fun c => by
    refine vs_ok 2 ?_
    rw [show ((gRes 242).drop 38).take 2 = [.iconst (-1), .ireturn] from rfl]
    simp (disch := omega) only [vs_iconst, vs_ireturn, vs_nil, gv_0, gv_1, gv_2, gv_3, pv_0, pv_1, va_rf_s, Nat.reduceDiv, Nat.reduceMod, Nat.reduceAdd, Nat.reduceMul, Int.reduceToNat, true_and, and_true, and_self, cP_eq, cP_ne, cP_lt, cP_ge, cP_gt, cP_le, eL_i, eL_l, eL_r, eL_n, Option.toList_none, Option.toList_some, List.nil_append, List.cons_append, kkI, llI, nnI, rrI, jjI, kkJ, llJ, nnJ, rrJ, iiJ, zIIs, zJJs, nEF, nET, and_false, false_and, jmin, jmax, catS_n, catS_i, catS_r, catS_l, Nat.reduceLeDiff, j1eq1, n21, jt0, jt1, Bool.false_eq_true, Classical.not_not, true_or, or_true, false_or, or_false, true_imp_iff, false_imp_iff, not_true_eq_false, not_false_eq_true, jif0, jif1, jifb, ltT, ltF, leT, leF, eqT, eqF, jlt, jle, jeq, jlt0, jle0, jeq0, jge0, jgt0, jinB, jnat, clt, cle, ceq, cgt, cge, lI_add, lI_sub, lI_mul, jadd, jsub, jmul, jneg, jtol, b010, b011, pv_2t, Int.toNat_natCast, Option.some.injEq, exists_eq_left', if_true, if_false, show gRc 242 = 1 from rfl]
    exact w0 c g z
  refine PW.iv rfl rfl rfl M1.1 M1.2 (le_b rfl) (le_b rfl) ?_
  refine t_M_isDie (d := D) hg ng hF ia ⟨rfl, ⟨rfl, rfl⟩, ?_⟩
  by_cases ca : smD F nm a
  · rw [if_pos ca]
    refine vs_ok 3 ?_
    rw [show ((gRes 242).drop 6).take 3 = [.ifCond .eq 38, .aload 0, .iload 2] from rfl]
    simp (disch := omega) only [vs_ifCond, vs_aload0, vs_iload2, vs_nil, gv_0, gv_1, gv_2, gv_3, pv_0, pv_1, va_rf_s, Nat.reduceDiv, Nat.reduceMod, Nat.reduceAdd, Nat.reduceMul, Int.reduceToNat, true_and, and_true, and_self, cP_eq, cP_ne, cP_lt, cP_ge, cP_gt, cP_le, eL_i, eL_l, eL_r, eL_n, Option.toList_none, Option.toList_some, List.nil_append, List.cons_append, kkI, llI, nnI, rrI, jjI, kkJ, llJ, nnJ, rrJ, iiJ, zIIs, zJJs, nEF, nET, and_false, false_and, jmin, jmax, catS_n, catS_i, catS_r, catS_l, Nat.reduceLeDiff, j1eq1, n21, jt0, jt1, Bool.false_eq_true, Classical.not_not, true_or, or_true, false_or, or_false, true_imp_iff, false_imp_iff, not_true_eq_false, not_false_eq_true, jif0, jif1, jifb, ltT, ltF, leT, leF, eqT, eqF, jlt, jle, jeq, jlt0, jle0, jeq0, jge0, jgt0, jinB, jnat, clt, cle, ceq, cgt, cge, lI_add, lI_sub, lI_mul, jadd, jsub, jmul, jneg, jtol, b010, b011, pv_2t, Int.toNat_natCast, Option.some.injEq, exists_eq_left', if_true, if_false]
    refine PW.iv rfl rfl rfl M1.1 M1.2 (le_b rfl) (le_b rfl) ?_
    refine t_M_isDie (d := D) hg ng hF ib ⟨rfl, ⟨rfl, rfl⟩, ?_⟩
    by_cases cb : smD F nm b
    · rw [if_pos cb]
      refine vs_ok 1 ?_
      rw [show ((gRes 242).drop 10).take 1 = [.ifCond .eq 38] from rfl]
      simp (disch := omega) only [vs_ifCond, vs_nil, gv_0, gv_1, gv_2, gv_3, pv_0, pv_1, va_rf_s, Nat.reduceDiv, Nat.reduceMod, Nat.reduceAdd, Nat.reduceMul, Int.reduceToNat, true_and, and_true, and_self, cP_eq, cP_ne, cP_lt, cP_ge, cP_gt, cP_le, eL_i, eL_l, eL_r, eL_n, Option.toList_none, Option.toList_some, List.nil_append, List.cons_append, kkI, llI, nnI, rrI, jjI, kkJ, llJ, nnJ, rrJ, iiJ, zIIs, zJJs, nEF, nET, and_false, false_and, jmin, jmax, catS_n, catS_i, catS_r, catS_l, Nat.reduceLeDiff, j1eq1, n21, jt0, jt1, Bool.false_eq_true, Classical.not_not, true_or, or_true, false_or, or_false, true_imp_iff, false_imp_iff, not_true_eq_false, not_false_eq_true, jif0, jif1, jifb, ltT, ltF, leT, leF, eqT, eqF, jlt, jle, jeq, jlt0, jle0, jeq0, jge0, jgt0, jinB, jnat, clt, cle, ceq, cgt, cge, lI_add, lI_sub, lI_mul, jadd, jsub, jmul, jneg, jtol, b010, b011, pv_2t, Int.toNat_natCast, Option.some.injEq, exists_eq_left', if_true, if_false]
      have p1 := ip.1
      have p2 := ip.2
      have q1 := iq.1
      have q2 := iq.2
      have fa := ca.2
      have fb := cb.2
      obtain ⟨A, rfl⟩ : ∃ A : Nat, a = A := ⟨a.toNat, by omega⟩
      obtain ⟨B, rfl⟩ : ∃ B : Nat, b = B := ⟨b.toNat, by omega⟩
      rw [Int.toNat_natCast] at fa fb w1 no
      rw [Int.toNat_natCast] at w1 no
      have FA := (fg A (by omega)).1
      have FB := (fg B (by omega)).1
      rw [Nat.zero_add] at FA FB
      have m1 := Int.mul_le_mul fa.2 fb.2 (by omega) (by omega)
      have m0 := Int.mul_nonneg (show 0 ≤ F A by omega) (show 0 ≤ F B by omega)
      generalize hE : F A * F B = E at no w1 m1 m0
      have big : 1 ≤ p → E < q → ¬ p * q = E := fun h1 h2 h3 => by
        have := Int.mul_le_mul_of_nonneg_right h1 (show 0 ≤ q by omega)
        omega
      by_cases c1 : 1 ≤ p
      · refine vs_ok 3 ?_
        rw [show ((gRes 242).drop 11).take 3 = [.iload 3, .iconst 1, .if_icmp .lt 38] from rfl]
        simp (disch := omega) only [vs_iconst, vs_if_icmp, vs_iload3, vs_nil, gv_0, gv_1, gv_2, gv_3, pv_0, pv_1, va_rf_s, Nat.reduceDiv, Nat.reduceMod, Nat.reduceAdd, Nat.reduceMul, Int.reduceToNat, true_and, and_true, and_self, cP_eq, cP_ne, cP_lt, cP_ge, cP_gt, cP_le, eL_i, eL_l, eL_r, eL_n, Option.toList_none, Option.toList_some, List.nil_append, List.cons_append, kkI, llI, nnI, rrI, jjI, kkJ, llJ, nnJ, rrJ, iiJ, zIIs, zJJs, nEF, nET, and_false, false_and, jmin, jmax, catS_n, catS_i, catS_r, catS_l, Nat.reduceLeDiff, j1eq1, n21, jt0, jt1, Bool.false_eq_true, Classical.not_not, true_or, or_true, false_or, or_false, true_imp_iff, false_imp_iff, not_true_eq_false, not_false_eq_true, jif0, jif1, jifb, ltT, ltF, leT, leF, eqT, eqF, jlt, jle, jeq, jlt0, jle0, jeq0, jge0, jgt0, jinB, jnat, clt, cle, ceq, cgt, cge, lI_add, lI_sub, lI_mul, jadd, jsub, jmul, jneg, jtol, b010, b011, pv_2t, Int.toNat_natCast, Option.some.injEq, exists_eq_left', if_true, if_false]
        by_cases c2 : p ≤ q
        · refine vs_ok 3 ?_
          rw [show ((gRes 242).drop 14).take 3 = [.iload 3, .iload 4, .if_icmp .gt 38] from rfl]
          simp (disch := omega) only [vs_if_icmp, vs_iload3, vs_iload4, vs_nil, gv_0, gv_1, gv_2, gv_3, pv_0, pv_1, va_rf_s, Nat.reduceDiv, Nat.reduceMod, Nat.reduceAdd, Nat.reduceMul, Int.reduceToNat, true_and, and_true, and_self, cP_eq, cP_ne, cP_lt, cP_ge, cP_gt, cP_le, eL_i, eL_l, eL_r, eL_n, Option.toList_none, Option.toList_some, List.nil_append, List.cons_append, kkI, llI, nnI, rrI, jjI, kkJ, llJ, nnJ, rrJ, iiJ, zIIs, zJJs, nEF, nET, and_false, false_and, jmin, jmax, catS_n, catS_i, catS_r, catS_l, Nat.reduceLeDiff, j1eq1, n21, jt0, jt1, Bool.false_eq_true, Classical.not_not, true_or, or_true, false_or, or_false, true_imp_iff, false_imp_iff, not_true_eq_false, not_false_eq_true, jif0, jif1, jifb, ltT, ltF, leT, leF, eqT, eqF, jlt, jle, jeq, jlt0, jle0, jeq0, jge0, jgt0, jinB, jnat, clt, cle, ceq, cgt, cge, lI_add, lI_sub, lI_mul, jadd, jsub, jmul, jneg, jtol, b010, b011, pv_2t, Int.toNat_natCast, Option.some.injEq, exists_eq_left', if_true, if_false]
          by_cases c3 : q ≤ 64
          · refine vs_ok 3 ?_
            rw [show ((gRes 242).drop 17).take 3 = [.iload 4, .iconst 64, .if_icmp .gt 38] from rfl]
            simp (disch := omega) only [vs_iconst, vs_if_icmp, vs_iload4, vs_nil, gv_0, gv_1, gv_2, gv_3, pv_0, pv_1, va_rf_s, Nat.reduceDiv, Nat.reduceMod, Nat.reduceAdd, Nat.reduceMul, Int.reduceToNat, true_and, and_true, and_self, cP_eq, cP_ne, cP_lt, cP_ge, cP_gt, cP_le, eL_i, eL_l, eL_r, eL_n, Option.toList_none, Option.toList_some, List.nil_append, List.cons_append, kkI, llI, nnI, rrI, jjI, kkJ, llJ, nnJ, rrJ, iiJ, zIIs, zJJs, nEF, nET, and_false, false_and, jmin, jmax, catS_n, catS_i, catS_r, catS_l, Nat.reduceLeDiff, j1eq1, n21, jt0, jt1, Bool.false_eq_true, Classical.not_not, true_or, or_true, false_or, or_false, true_imp_iff, false_imp_iff, not_true_eq_false, not_false_eq_true, jif0, jif1, jifb, ltT, ltF, leT, leF, eqT, eqF, jlt, jle, jeq, jlt0, jle0, jeq0, jge0, jgt0, jinB, jnat, clt, cle, ceq, cgt, cge, lI_add, lI_sub, lI_mul, jadd, jsub, jmul, jneg, jtol, b010, b011, pv_2t, Int.toNat_natCast, Option.some.injEq, exists_eq_left', if_true, if_false]
            by_cases c4 : p * q = E
            · refine vs_ok 13 ?_
              rw [show ((gRes 242).drop 20).take 13 = [.iload 3, .iload 4, .imul, .aload 0, .getfield 12102, .iload 1, .iaload, .aload 0, .getfield 12102, .iload 2, .iaload, .imul, .if_icmp .ne 38] from rfl]
              simp (disch := omega) only [vs_imul, vs_if_icmp, vs_getfield, vs_iaload, vs_aload0, vs_iload1, vs_iload2, vs_iload3, vs_iload4, vs_nil, gv_0, gv_1, gv_2, gv_3, pv_0, pv_1, va_rf_s, Nat.reduceDiv, Nat.reduceMod, Nat.reduceAdd, Nat.reduceMul, Int.reduceToNat, true_and, and_true, and_self, cP_eq, cP_ne, cP_lt, cP_ge, cP_gt, cP_le, eL_i, eL_l, eL_r, eL_n, Option.toList_none, Option.toList_some, List.nil_append, List.cons_append, kkI, llI, nnI, rrI, jjI, kkJ, llJ, nnJ, rrJ, iiJ, zIIs, zJJs, nEF, nET, and_false, false_and, jmin, jmax, catS_n, catS_i, catS_r, catS_l, Nat.reduceLeDiff, j1eq1, n21, jt0, jt1, Bool.false_eq_true, Classical.not_not, true_or, or_true, false_or, or_false, true_imp_iff, false_imp_iff, not_true_eq_false, not_false_eq_true, jif0, jif1, jifb, ltT, ltF, leT, leF, eqT, eqF, jlt, jle, jeq, jlt0, jle0, jeq0, jge0, jgt0, jinB, jnat, clt, cle, ceq, cgt, cge, lI_add, lI_sub, lI_mul, jadd, jsub, jmul, jneg, jtol, b010, b011, pv_2t, Int.toNat_natCast, Option.some.injEq, exists_eq_left', if_true, if_false, M1, A6, FA, FB, jmul, hE, c4]
              refine vs_ok 3 ?_
              rw [show ((gRes 242).drop 33).take 3 = [.iload 5, .iconst 0, .iconst 60] from rfl]
              simp (disch := omega) only [vs_iconst, vs_iload5, vs_nil, gv_0, gv_1, gv_2, gv_3, pv_0, pv_1, va_rf_s, Nat.reduceDiv, Nat.reduceMod, Nat.reduceAdd, Nat.reduceMul, Int.reduceToNat, true_and, and_true, and_self, cP_eq, cP_ne, cP_lt, cP_ge, cP_gt, cP_le, eL_i, eL_l, eL_r, eL_n, Option.toList_none, Option.toList_some, List.nil_append, List.cons_append, kkI, llI, nnI, rrI, jjI, kkJ, llJ, nnJ, rrJ, iiJ, zIIs, zJJs, nEF, nET, and_false, false_and, jmin, jmax, catS_n, catS_i, catS_r, catS_l, Nat.reduceLeDiff, j1eq1, n21, jt0, jt1, Bool.false_eq_true, Classical.not_not, true_or, or_true, false_or, or_false, true_imp_iff, false_imp_iff, not_true_eq_false, not_false_eq_true, jif0, jif1, jifb, ltT, ltF, leT, leF, eqT, eqF, jlt, jle, jeq, jlt0, jle0, jeq0, jge0, jgt0, jinB, jnat, clt, cle, ceq, cgt, cge, lI_add, lI_sub, lI_mul, jadd, jsub, jmul, jneg, jtol, b010, b011, pv_2t, Int.toNat_natCast, Option.some.injEq, exists_eq_left', if_true, if_false]
              refine PW.ss (r := []) rfl (le_b rfl) rfl rfl (le_b rfl) (le_b rfl) ?_
              refine t_M_isIn il (by constructor <;> omega) (by constructor <;> omega) ⟨rfl, ⟨rfl, rfl⟩, ?_⟩
              by_cases c5 : 0 ≤ l ∧ l ≤ 60
              · rw [if_pos c5]
                refine vs_ok 3 ?_
                rw [show ((gRes 242).drop 37).take 3 = [.ifCond .ne 40, .iconst (-1), .ireturn] from rfl]
                simp (disch := omega) only [vs_iconst, vs_ifCond, vs_ireturn, vs_nil, gv_0, gv_1, gv_2, gv_3, pv_0, pv_1, va_rf_s, Nat.reduceDiv, Nat.reduceMod, Nat.reduceAdd, Nat.reduceMul, Int.reduceToNat, true_and, and_true, and_self, cP_eq, cP_ne, cP_lt, cP_ge, cP_gt, cP_le, eL_i, eL_l, eL_r, eL_n, Option.toList_none, Option.toList_some, List.nil_append, List.cons_append, kkI, llI, nnI, rrI, jjI, kkJ, llJ, nnJ, rrJ, iiJ, zIIs, zJJs, nEF, nET, and_false, false_and, jmin, jmax, catS_n, catS_i, catS_r, catS_l, Nat.reduceLeDiff, j1eq1, n21, jt0, jt1, Bool.false_eq_true, Classical.not_not, true_or, or_true, false_or, or_false, true_imp_iff, false_imp_iff, not_true_eq_false, not_false_eq_true, jif0, jif1, jifb, ltT, ltF, leT, leF, eqT, eqF, jlt, jle, jeq, jlt0, jle0, jeq0, jge0, jgt0, jinB, jnat, clt, cle, ceq, cgt, cge, lI_add, lI_sub, lI_mul, jadd, jsub, jmul, jneg, jtol, b010, b011, pv_2t, Int.toNat_natCast, Option.some.injEq, exists_eq_left', if_true, if_false, show gRc 242 = 1 from rfl]
                have w1 := w1 ⟨ca, cb, c5, c1, c2, c4⟩
                have fA := fg A (by omega)
                have fB := fg B (by omega)
                obtain ⟨P, rfl⟩ : ∃ P : Nat, p = P := ⟨p.toNat, by omega⟩
                obtain ⟨R, rfl⟩ : ∃ R : Nat, q = R := ⟨q.toNat, by omega⟩
                obtain ⟨L, rfl⟩ : ∃ L : Nat, l = L := ⟨l.toNat, by omega⟩
                obtain ⟨na, hna⟩ : ∃ na : Nat, F A = na := ⟨(F A).toNat, by omega⟩
                obtain ⟨nb, hnb⟩ : ∃ nb : Nat, F B = nb := ⟨(F B).toNat, by omega⟩
                rw [hna] at FA fa
                rw [hnb] at FB fb
                rw [hna, hnb] at w1
                rw [Nat.zero_add] at fA fB
                have gA := (fA.2.2 (by omega)).1
                have gB := (fB.2.2 (by omega)).1
                rw [hna] at gA
                rw [hnb] at gB
                simp only [Int.toNat_natCast] at w1 gA gB
                exact t_M_othGo hg (by omega) (by omega) (by omega) (by omega) FA FB gA gB (by omega) (by omega) (by omega) fun g2 low high l1 l2 h1 h2 hlh hh f e e41 e42 k => w1 g2 low high l1 l2 h1 h2 hlh hh ((z.1.wk fun z h => Or.inl h).tr f) (fun i h1 h2 => by rw [e i h2]; exact z.2.1 i h1) (by rw [e 0 (by omega)]; exact z.2.2) e41 e42 k
              · rw [if_neg c5]
                refine vs_ok 1 ?_
                rw [show ((gRes 242).drop 37).take 1 = [.ifCond .ne 40] from rfl]
                simp (disch := omega) only [vs_ifCond, vs_nil, gv_0, gv_1, gv_2, gv_3, pv_0, pv_1, va_rf_s, Nat.reduceDiv, Nat.reduceMod, Nat.reduceAdd, Nat.reduceMul, Int.reduceToNat, true_and, and_true, and_self, cP_eq, cP_ne, cP_lt, cP_ge, cP_gt, cP_le, eL_i, eL_l, eL_r, eL_n, Option.toList_none, Option.toList_some, List.nil_append, List.cons_append, kkI, llI, nnI, rrI, jjI, kkJ, llJ, nnJ, rrJ, iiJ, zIIs, zJJs, nEF, nET, and_false, false_and, jmin, jmax, catS_n, catS_i, catS_r, catS_l, Nat.reduceLeDiff, j1eq1, n21, jt0, jt1, Bool.false_eq_true, Classical.not_not, true_or, or_true, false_or, or_false, true_imp_iff, false_imp_iff, not_true_eq_false, not_false_eq_true, jif0, jif1, jifb, ltT, ltF, leT, leF, eqT, eqF, jlt, jle, jeq, jlt0, jle0, jeq0, jge0, jgt0, jinB, jnat, clt, cle, ceq, cgt, cge, lI_add, lI_sub, lI_mul, jadd, jsub, jmul, jneg, jtol, b010, b011, pv_2t, Int.toNat_natCast, Option.some.injEq, exists_eq_left', if_true, if_false]
                exact no fun z => c5 z.2.2.1
            · have m2 := Int.mul_le_mul (show p ≤ 64 by omega) c3 (by omega) (by omega)
              have m3 := Int.mul_nonneg (show 0 ≤ p by omega) (show 0 ≤ q by omega)
              refine vs_ok 13 ?_
              rw [show ((gRes 242).drop 20).take 13 = [.iload 3, .iload 4, .imul, .aload 0, .getfield 12102, .iload 1, .iaload, .aload 0, .getfield 12102, .iload 2, .iaload, .imul, .if_icmp .ne 38] from rfl]
              simp (disch := omega) only [vs_imul, vs_if_icmp, vs_getfield, vs_iaload, vs_aload0, vs_iload1, vs_iload2, vs_iload3, vs_iload4, vs_nil, gv_0, gv_1, gv_2, gv_3, pv_0, pv_1, va_rf_s, Nat.reduceDiv, Nat.reduceMod, Nat.reduceAdd, Nat.reduceMul, Int.reduceToNat, true_and, and_true, and_self, cP_eq, cP_ne, cP_lt, cP_ge, cP_gt, cP_le, eL_i, eL_l, eL_r, eL_n, Option.toList_none, Option.toList_some, List.nil_append, List.cons_append, kkI, llI, nnI, rrI, jjI, kkJ, llJ, nnJ, rrJ, iiJ, zIIs, zJJs, nEF, nET, and_false, false_and, jmin, jmax, catS_n, catS_i, catS_r, catS_l, Nat.reduceLeDiff, j1eq1, n21, jt0, jt1, Bool.false_eq_true, Classical.not_not, true_or, or_true, false_or, or_false, true_imp_iff, false_imp_iff, not_true_eq_false, not_false_eq_true, jif0, jif1, jifb, ltT, ltF, leT, leF, eqT, eqF, jlt, jle, jeq, jlt0, jle0, jeq0, jge0, jgt0, jinB, jnat, clt, cle, ceq, cgt, cge, lI_add, lI_sub, lI_mul, jadd, jsub, jmul, jneg, jtol, b010, b011, pv_2t, Int.toNat_natCast, Option.some.injEq, exists_eq_left', if_true, if_false, M1, A6, FA, FB, jmul, hE]
              exact no fun z => c4 z.2.2.2.2.2
          · refine vs_ok 3 ?_
            rw [show ((gRes 242).drop 17).take 3 = [.iload 4, .iconst 64, .if_icmp .gt 38] from rfl]
            simp (disch := omega) only [vs_iconst, vs_if_icmp, vs_iload4, vs_nil, gv_0, gv_1, gv_2, gv_3, pv_0, pv_1, va_rf_s, Nat.reduceDiv, Nat.reduceMod, Nat.reduceAdd, Nat.reduceMul, Int.reduceToNat, true_and, and_true, and_self, cP_eq, cP_ne, cP_lt, cP_ge, cP_gt, cP_le, eL_i, eL_l, eL_r, eL_n, Option.toList_none, Option.toList_some, List.nil_append, List.cons_append, kkI, llI, nnI, rrI, jjI, kkJ, llJ, nnJ, rrJ, iiJ, zIIs, zJJs, nEF, nET, and_false, false_and, jmin, jmax, catS_n, catS_i, catS_r, catS_l, Nat.reduceLeDiff, j1eq1, n21, jt0, jt1, Bool.false_eq_true, Classical.not_not, true_or, or_true, false_or, or_false, true_imp_iff, false_imp_iff, not_true_eq_false, not_false_eq_true, jif0, jif1, jifb, ltT, ltF, leT, leF, eqT, eqF, jlt, jle, jeq, jlt0, jle0, jeq0, jge0, jgt0, jinB, jnat, clt, cle, ceq, cgt, cge, lI_add, lI_sub, lI_mul, jadd, jsub, jmul, jneg, jtol, b010, b011, pv_2t, Int.toNat_natCast, Option.some.injEq, exists_eq_left', if_true, if_false]
            exact no fun z => big c1 (by omega) z.2.2.2.2.2
        · refine vs_ok 3 ?_
          rw [show ((gRes 242).drop 14).take 3 = [.iload 3, .iload 4, .if_icmp .gt 38] from rfl]
          simp (disch := omega) only [vs_if_icmp, vs_iload3, vs_iload4, vs_nil, gv_0, gv_1, gv_2, gv_3, pv_0, pv_1, va_rf_s, Nat.reduceDiv, Nat.reduceMod, Nat.reduceAdd, Nat.reduceMul, Int.reduceToNat, true_and, and_true, and_self, cP_eq, cP_ne, cP_lt, cP_ge, cP_gt, cP_le, eL_i, eL_l, eL_r, eL_n, Option.toList_none, Option.toList_some, List.nil_append, List.cons_append, kkI, llI, nnI, rrI, jjI, kkJ, llJ, nnJ, rrJ, iiJ, zIIs, zJJs, nEF, nET, and_false, false_and, jmin, jmax, catS_n, catS_i, catS_r, catS_l, Nat.reduceLeDiff, j1eq1, n21, jt0, jt1, Bool.false_eq_true, Classical.not_not, true_or, or_true, false_or, or_false, true_imp_iff, false_imp_iff, not_true_eq_false, not_false_eq_true, jif0, jif1, jifb, ltT, ltF, leT, leF, eqT, eqF, jlt, jle, jeq, jlt0, jle0, jeq0, jge0, jgt0, jinB, jnat, clt, cle, ceq, cgt, cge, lI_add, lI_sub, lI_mul, jadd, jsub, jmul, jneg, jtol, b010, b011, pv_2t, Int.toNat_natCast, Option.some.injEq, exists_eq_left', if_true, if_false]
          exact no fun z => c2 z.2.2.2.2.1
      · refine vs_ok 3 ?_
        rw [show ((gRes 242).drop 11).take 3 = [.iload 3, .iconst 1, .if_icmp .lt 38] from rfl]
        simp (disch := omega) only [vs_iconst, vs_if_icmp, vs_iload3, vs_nil, gv_0, gv_1, gv_2, gv_3, pv_0, pv_1, va_rf_s, Nat.reduceDiv, Nat.reduceMod, Nat.reduceAdd, Nat.reduceMul, Int.reduceToNat, true_and, and_true, and_self, cP_eq, cP_ne, cP_lt, cP_ge, cP_gt, cP_le, eL_i, eL_l, eL_r, eL_n, Option.toList_none, Option.toList_some, List.nil_append, List.cons_append, kkI, llI, nnI, rrI, jjI, kkJ, llJ, nnJ, rrJ, iiJ, zIIs, zJJs, nEF, nET, and_false, false_and, jmin, jmax, catS_n, catS_i, catS_r, catS_l, Nat.reduceLeDiff, j1eq1, n21, jt0, jt1, Bool.false_eq_true, Classical.not_not, true_or, or_true, false_or, or_false, true_imp_iff, false_imp_iff, not_true_eq_false, not_false_eq_true, jif0, jif1, jifb, ltT, ltF, leT, leF, eqT, eqF, jlt, jle, jeq, jlt0, jle0, jeq0, jge0, jgt0, jinB, jnat, clt, cle, ceq, cgt, cge, lI_add, lI_sub, lI_mul, jadd, jsub, jmul, jneg, jtol, b010, b011, pv_2t, Int.toNat_natCast, Option.some.injEq, exists_eq_left', if_true, if_false]
        exact no fun z => c1 z.2.2.2.1
    · rw [if_neg cb]
      refine vs_ok 26 ?_
      rw [show ((gRes 242).drop 10).take 26 = [.ifCond .eq 38, .iload 3, .iconst 1, .if_icmp .lt 38, .iload 3, .iload 4, .if_icmp .gt 38, .iload 4, .iconst 64, .if_icmp .gt 38, .iload 3, .iload 4, .imul, .aload 0, .getfield 12102, .iload 1, .iaload, .aload 0, .getfield 12102, .iload 2, .iaload, .imul, .if_icmp .ne 38, .iload 5, .iconst 0, .iconst 60] from rfl]
      simp (disch := omega) only [vs_imul, vs_iconst, vs_if_icmp, vs_ifCond, vs_getfield, vs_iaload, vs_aload0, vs_iload1, vs_iload2, vs_iload3, vs_iload4, vs_iload5, vs_nil, gv_0, gv_1, gv_2, gv_3, pv_0, pv_1, va_rf_s, Nat.reduceDiv, Nat.reduceMod, Nat.reduceAdd, Nat.reduceMul, Int.reduceToNat, true_and, and_true, and_self, cP_eq, cP_ne, cP_lt, cP_ge, cP_gt, cP_le, eL_i, eL_l, eL_r, eL_n, Option.toList_none, Option.toList_some, List.nil_append, List.cons_append, kkI, llI, nnI, rrI, jjI, kkJ, llJ, nnJ, rrJ, iiJ, zIIs, zJJs, nEF, nET, and_false, false_and, jmin, jmax, catS_n, catS_i, catS_r, catS_l, Nat.reduceLeDiff, j1eq1, n21, jt0, jt1, Bool.false_eq_true, Classical.not_not, true_or, or_true, false_or, or_false, true_imp_iff, false_imp_iff, not_true_eq_false, not_false_eq_true, jif0, jif1, jifb, ltT, ltF, leT, leF, eqT, eqF, jlt, jle, jeq, jlt0, jle0, jeq0, jge0, jgt0, jinB, jnat, clt, cle, ceq, cgt, cge, lI_add, lI_sub, lI_mul, jadd, jsub, jmul, jneg, jtol, b010, b011, pv_2t, Int.toNat_natCast, Option.some.injEq, exists_eq_left', if_true, if_false]
      exact no fun z => cb z.2.1
  · rw [if_neg ca]
    refine vs_ok 3 ?_
    rw [show ((gRes 242).drop 6).take 3 = [.ifCond .eq 38, .aload 0, .iload 2] from rfl]
    simp (disch := omega) only [vs_ifCond, vs_aload0, vs_iload2, vs_nil, gv_0, gv_1, gv_2, gv_3, pv_0, pv_1, va_rf_s, Nat.reduceDiv, Nat.reduceMod, Nat.reduceAdd, Nat.reduceMul, Int.reduceToNat, true_and, and_true, and_self, cP_eq, cP_ne, cP_lt, cP_ge, cP_gt, cP_le, eL_i, eL_l, eL_r, eL_n, Option.toList_none, Option.toList_some, List.nil_append, List.cons_append, kkI, llI, nnI, rrI, jjI, kkJ, llJ, nnJ, rrJ, iiJ, zIIs, zJJs, nEF, nET, and_false, false_and, jmin, jmax, catS_n, catS_i, catS_r, catS_l, Nat.reduceLeDiff, j1eq1, n21, jt0, jt1, Bool.false_eq_true, Classical.not_not, true_or, or_true, false_or, or_false, true_imp_iff, false_imp_iff, not_true_eq_false, not_false_eq_true, jif0, jif1, jifb, ltT, ltF, leT, leF, eqT, eqF, jlt, jle, jeq, jlt0, jle0, jeq0, jge0, jgt0, jinB, jnat, clt, cle, ceq, cgt, cge, lI_add, lI_sub, lI_mul, jadd, jsub, jmul, jneg, jtol, b010, b011, pv_2t, Int.toNat_natCast, Option.some.injEq, exists_eq_left', if_true, if_false]
    exact no fun z => ca z.1
