/-! the Model: tryFrom from its first sum on -/
abbrev sgN (x n : Nat) : Nat → Nat := upN (fun _ => 0) x n
theorem sm_sg {x n : Nat} (h : x ≤ 60) : smN (sgN x n) 61 = n := by
  have := sm_up (X := fun _ => 0) (i := x) (t := n) 61
  rw [if_pos (by omega), if_pos (by omega)] at this
  have z : smN (fun _ => 0) 61 = 0 := rfl
  change smN (sgN x n) 61 + 0 = smN (fun _ => 0) 61 + n at this
  omega
theorem t_M_tryFrom {D : Nat} {h : Hp} {m n P q x y low high : Nat} {tg : Nat → Nat} {J : List Pr2 → Hp → Prop} {L : List Pr2} {Q : Nat → Option Value → Hp → Prop} (hm : mO h m) (hn : 1 ≤ n) (hn64 : n ≤ 64) (hP : P ≤ 64) (hQ : q ≤ 64) (hlow : low = x + y) (hx : x ≤ 60) (hy : y ≤ 60) (hhi : high ≤ 120) (hlh : low ≤ high) (htg : ∀ s, s < 130 → tg s ≤ 1000 ∧ zI h (m + 21) s = iI (tg s)) (h41 : zI h m 41 = iI P) (h42 : zI h m 42 = iI q) (hnP : n ≤ P) (hnQ : tg low / n ≤ q) (hdv : tg low % n = 0) (h1 : 1 ≤ tg low)
    (hJ : ∀ L g g2, J L g → mO g m → tcC g g2 m → J L g2)
    (hAdd : ∀ (L : List Pr2) (X Y : Nat → Nat) (g : Hp) (Q' : Nat → Option Value → Hp → Prop), smN X 61 = P → smN Y 61 = q → mO g m → zI g m 41 = iI P → zI g m 42 = iI q → tyS g m X Y → J L g → (∀ g2, fi (fun z => z = m ∨ z = m + 25 ∨ z = m + 26) g g2 → (∀ i, i ≠ 39 → i ≠ 40 → zI g2 m i = zI g m i) → J (L ++ [(X, Y)]) g2 → Q' 0 none g2) → PR (D + 1) m_M_found [.ref m] g Q')
    (j : J L h) (K : ∀ g, fi (fun z => tcS m z ∨ z = m + 25 ∨ z = m + 26) h g → (∀ i, i ≠ 39 → i ≠ 40 → i ≠ 43 → i ≠ 44 → zI g m i = zI h m i) → J (L ++ mdL tg n P q x y high (high - low) (sgN x n) (sgN y (tg low / n))) g → Q 0 none g) : PR (D + 2) m_M_tryFrom [.ref m, .int (iI x), .int (iI n), .int (iI low), .int (iI high)] h Q := by
  show PW (D + 2) 243 0 [some (.ref m), some (.int (iI x)), some (.int (iI n)), some (.int (iI low)), some (.int (iI high)), none, none, none, none, none, none] [] h Q
  have A21 := hm.target
  have A22 := hm.xs
  have A23 := hm.ys
  have A24 := hm.tried
  have M := hm.k
  have ey : (low : Int) - (x : Int) = (y : Int) := by omega
  have tl := htg low (by omega)
  have dn := jdN (tg low) n (by omega) (by omega) (by omega)
  have q0 : tg low / n ≠ 0 := fun z => by
    have := Nat.div_add_mod (tg low) n
    rw [z, hdv, Nat.mul_zero] at this
    omega
  have p21 : ∀ (g : Hp) (l7 l8 l9 l10 l6 : Option Value), fi (fun z => z = m + 22 ∨ z = m + 23) h g → (∀ i, i ≤ 60 → zI g (m + 22) i = iI 0 ∧ zI g (m + 23) i = iI 0) → PW (D + 2) 243 21 [some (.ref m), some (.int (iI x)), some (.int (iI n)), some (.int (iI low)), some (.int (iI high)), some (.int (iI y)), l6, l7, l8, l9, l10] [] g Q := fun g l7 l8 l9 l10 l6 f z => by
    have hg := hm.fi f
    have r := f.1.2.2.2.2.2.1
    have M := hg.k
    have A21 := hg.target
    have A22 := hg.xs
    have A23 := hg.ys
    have A24 := hg.tried
    have tl : zI g (m + 21) low = iI (tg low) := by rw [r (m + 21) (by omega)]; exact tl.2
    have el : (low : Int) + 1 = ((low + 1 : Nat) : Int) := rfl
    refine vs_ok 15 ?_
    rw [show ((gRes 243).drop 21).take 15 = [.aload 0, .getfield 12342, .iload 1, .iload 2, .iastore, .aload 0, .getfield 12352, .iload 5, .aload 0, .getfield 12332, .iload 3, .iaload, .iload 2, .idiv, .iastore] from rfl]
    simp (disch := omega) only [vs_idiv, vs_getfield, vs_iaload, vs_iastore, vs_aload0, vs_iload1, vs_iload2, vs_iload3, vs_iload5, vs_nil, gv_0, gv_1, gv_2, gv_3, pv_0, pv_1, va_rf_s, Nat.reduceDiv, Nat.reduceMod, Nat.reduceAdd, Nat.reduceMul, Int.reduceToNat, true_and, and_true, and_self, cP_eq, cP_ne, cP_lt, cP_ge, cP_gt, cP_le, eL_i, eL_l, eL_r, eL_n, Option.toList_none, Option.toList_some, List.nil_append, List.cons_append, kkI, llI, nnI, rrI, jjI, kkJ, llJ, nnJ, rrJ, iiJ, zIIs, zJJs, nEF, nET, and_false, false_and, jmin, jmax, catS_n, catS_i, catS_r, catS_l, Nat.reduceLeDiff, j1eq1, n21, jt0, jt1, Bool.false_eq_true, Classical.not_not, true_or, or_true, false_or, or_false, true_imp_iff, false_imp_iff, not_true_eq_false, not_false_eq_true, jif0, jif1, jifb, ltT, ltF, leT, leF, eqT, eqF, jlt, jle, jeq, jlt0, jle0, jeq0, jge0, jgt0, jinB, jnat, clt, cle, ceq, cgt, cge, lI_add, lI_sub, lI_mul, jadd, jsub, jmul, jneg, jtol, b010, b011, pv_2t, Int.toNat_natCast, Option.some.injEq, exists_eq_left', if_true, if_false, M, A21, A22, A23, tl, dn]
    refine vs_ok 11 ?_
    rw [show ((gRes 243).drop 36).take 11 = [.aload 0, .iload 2, .putfield 12430, .aload 0, .aload 0, .getfield 12332, .iload 3, .iaload, .iload 2, .idiv, .putfield 12440] from rfl]
    simp (disch := omega) only [vs_idiv, vs_getfield, vs_putfield, vs_iaload, vs_aload0, vs_iload2, vs_iload3, vs_nil, gv_0, gv_1, gv_2, gv_3, pv_0, pv_1, va_rf_s, Nat.reduceDiv, Nat.reduceMod, Nat.reduceAdd, Nat.reduceMul, Int.reduceToNat, true_and, and_true, and_self, cP_eq, cP_ne, cP_lt, cP_ge, cP_gt, cP_le, eL_i, eL_l, eL_r, eL_n, Option.toList_none, Option.toList_some, List.nil_append, List.cons_append, kkI, llI, nnI, rrI, jjI, kkJ, llJ, nnJ, rrJ, iiJ, zIIs, zJJs, nEF, nET, and_false, false_and, jmin, jmax, catS_n, catS_i, catS_r, catS_l, Nat.reduceLeDiff, j1eq1, n21, jt0, jt1, Bool.false_eq_true, Classical.not_not, true_or, or_true, false_or, or_false, true_imp_iff, false_imp_iff, not_true_eq_false, not_false_eq_true, jif0, jif1, jifb, ltT, ltF, leT, leF, eqT, eqF, jlt, jle, jeq, jlt0, jle0, jeq0, jge0, jgt0, jinB, jnat, clt, cle, ceq, cgt, cge, lI_add, lI_sub, lI_mul, jadd, jsub, jmul, jneg, jtol, b010, b011, pv_2t, Int.toNat_natCast, Option.some.injEq, exists_eq_left', if_true, if_false, M, A21, A22, A23, tl, dn]
    refine vs_ok 9 ?_
    rw [show ((gRes 243).drop 47).take 9 = [.iload 3, .iconst 1, .iadd, .istore 6, .aload 0, .getfield 12362, .iload 6, .iconst 0, .iastore] from rfl]
    simp (disch := omega) only [vs_iadd, vs_iconst, vs_getfield, vs_iastore, vs_aload0, vs_iload3, vs_iload6, vs_istore6n, vs_istore6i, vs_istore6r, vs_istore6l, vs_nil, gv_0, gv_1, gv_2, gv_3, pv_0, pv_1, va_rf_s, Nat.reduceDiv, Nat.reduceMod, Nat.reduceAdd, Nat.reduceMul, Int.reduceToNat, true_and, and_true, and_self, cP_eq, cP_ne, cP_lt, cP_ge, cP_gt, cP_le, eL_i, eL_l, eL_r, eL_n, Option.toList_none, Option.toList_some, List.nil_append, List.cons_append, kkI, llI, nnI, rrI, jjI, kkJ, llJ, nnJ, rrJ, iiJ, zIIs, zJJs, nEF, nET, and_false, false_and, jmin, jmax, catS_n, catS_i, catS_r, catS_l, Nat.reduceLeDiff, j1eq1, n21, jt0, jt1, Bool.false_eq_true, Classical.not_not, true_or, or_true, false_or, or_false, true_imp_iff, false_imp_iff, not_true_eq_false, not_false_eq_true, jif0, jif1, jifb, ltT, ltF, leT, leF, eqT, eqF, jlt, jle, jeq, jlt0, jle0, jeq0, jge0, jgt0, jinB, jnat, clt, cle, ceq, cgt, cge, lI_add, lI_sub, lI_mul, jadd, jsub, jmul, jneg, jtol, b010, b011, pv_2t, Int.toNat_natCast, Option.some.injEq, exists_eq_left', if_true, if_false, M, A24, el]
    have f1 := (((((fi_I (S := fun z => tcS m z) (h := g) (a := m + 22) (i := x) (v := iI n) (by unfold tcS; omega)).I (a := m + 23) (i := y) (v := iI ((tg low / n : Nat) : Int)) (by unfold tcS; omega)).I (a := m) (i := 43) (v := iI n) (by unfold tcS; omega)).I (a := m) (i := 44) (v := iI ((tg low / n : Nat) : Int)) (by unfold tcS; omega)).I (a := m + 24) (i := low + 1) (v := iI 0) (by unfold tcS; omega))
    generalize hG : zsI (zsI (zsI (zsI (zsI g (m + 22) x (iI n)) (m + 23) y (iI ((tg low / n : Nat) : Int))) m 43 (iI n)) m 44 (iI ((tg low / n : Nat) : Int))) (m + 24) (low + 1) (iI 0) = g1 at f1
    have f2 : fi (tcS m) h g1 := (f.wk fun z h => by unfold tcS; omega).tr f1
    have e2 : ∀ i, i ≠ 43 → i ≠ 44 → zI g1 m i = zI h m i := fun i h3 h4 => by
      rw [← hG, zI_s, if_neg (by omega), zI_s, if_neg fun z => h4 z.2, zI_s, if_neg fun z => h3 z.2, zI_s, if_neg (by omega), zI_s, if_neg (by omega), r m (by omega)]
    have g21 : ∀ i, zI g1 (m + 21) i = zI h (m + 21) i := fun i => by
      rw [← hG, zI_s, if_neg (by omega), zI_s, if_neg (by omega), zI_s, if_neg (by omega), zI_s, if_neg (by omega), zI_s, if_neg (by omega), r (m + 21) (by omega)]
    have hg1 := hm.fi f2
    have sx := sm_sg (x := x) (n := n) hx
    have sy := sm_sg (x := y) (n := tg low / n) hy
    have ty : tyS g1 m (sgN x n) (sgN y (tg low / n)) := by
      refine ⟨?_, ?_, fun i hi => ?_, fun i hi => ?_⟩
      · rw [sx, ← hG, zI_s, if_neg (by omega), zI_s, if_neg (by omega), zI_s, if_pos ⟨rfl, rfl⟩]
      · rw [sy, ← hG, zI_s, if_neg (by omega), zI_s, if_pos ⟨rfl, rfl⟩]
      · rw [← hG, zI_s, if_neg (by omega), zI_s, if_neg (by omega), zI_s, if_neg (by omega), zI_s, if_neg (by omega), zI_s]
        show _ = iI ((if i = x then n else 0 : Nat) : Int)
        by_cases c : i = x
        · rw [if_pos ⟨rfl, c⟩, if_pos c]
        · rw [if_neg fun z => c z.2, if_neg c]
          exact (z i hi).1
      · rw [← hG, zI_s, if_neg (by omega), zI_s, if_neg (by omega), zI_s, if_neg (by omega), zI_s]
        show _ = iI ((if i = y then tg low / n else 0 : Nat) : Int)
        by_cases c : i = y
        · rw [if_pos ⟨rfl, c⟩, if_pos c]
        · rw [if_neg fun z => c z.2, if_neg c, zI_s, if_neg (by omega)]
          exact (z i hi).2
    refine t_M_node hg1 hn hn64 hP hQ hlow hx hy hhi (fun s hs => ⟨(htg s hs).1, by rw [g21]; exact (htg s hs).2⟩) (by rw [e2 41 (by omega) (by omega)]; exact h41) (by rw [e2 42 (by omega) (by omega)]; exact h42) hJ hAdd (high - low) (low + 1) (by omega) (by omega) (sgN x n) (sgN y (tg low / n)) (by rw [sx]; exact hnP) (by rw [sy]; exact hnQ) (by
      show (if y = y then tg low / n else 0) ≠ 0
      rw [if_pos rfl]; exact q0) (fun i hi => if_neg (by omega)) (fun i hi => if_neg (by omega)) (by omega) L g1 _ _ _ _ hg1 fi.rf (fun _ _ _ _ _ => rfl) ty (by rw [← hG, zI_s, if_pos ⟨rfl, rfl⟩]) (hJ L h g1 j hm ⟨f2, e2⟩) fun g2 l7 l8 l9 l10 f3 e3 ty3 tr3 j3 => ?_
    have es : ((low + 1 : Nat) : Int) - 1 = (low : Int) := by omega
    rw [es]
    refine vs_ok 3 ?_
    rw [show ((gRes 243).drop 56).take 3 = [.iload 6, .iload 3, .if_icmp .le 224] from rfl]
    simp (disch := omega) only [vs_if_icmp, vs_iload3, vs_iload6, vs_nil, gv_0, gv_1, gv_2, gv_3, pv_0, pv_1, va_rf_s, Nat.reduceDiv, Nat.reduceMod, Nat.reduceAdd, Nat.reduceMul, Int.reduceToNat, true_and, and_true, and_self, cP_eq, cP_ne, cP_lt, cP_ge, cP_gt, cP_le, eL_i, eL_l, eL_r, eL_n, Option.toList_none, Option.toList_some, List.nil_append, List.cons_append, kkI, llI, nnI, rrI, jjI, kkJ, llJ, nnJ, rrJ, iiJ, zIIs, zJJs, nEF, nET, and_false, false_and, jmin, jmax, catS_n, catS_i, catS_r, catS_l, Nat.reduceLeDiff, j1eq1, n21, jt0, jt1, Bool.false_eq_true, Classical.not_not, true_or, or_true, false_or, or_false, true_imp_iff, false_imp_iff, not_true_eq_false, not_false_eq_true, jif0, jif1, jifb, ltT, ltF, leT, leF, eqT, eqF, jlt, jle, jeq, jlt0, jle0, jeq0, jge0, jgt0, jinB, jnat, clt, cle, ceq, cgt, cge, lI_add, lI_sub, lI_mul, jadd, jsub, jmul, jneg, jtol, b010, b011, pv_2t, Int.toNat_natCast, Option.some.injEq, exists_eq_left', if_true, if_false]
    refine vs_ok 1 ?_
    rw [show ((gRes 243).drop 224).take 1 = [.return_] from rfl]
    simp (disch := omega) only [vs_return_, vs_nil, gv_0, gv_1, gv_2, gv_3, pv_0, pv_1, va_rf_s, Nat.reduceDiv, Nat.reduceMod, Nat.reduceAdd, Nat.reduceMul, Int.reduceToNat, true_and, and_true, and_self, cP_eq, cP_ne, cP_lt, cP_ge, cP_gt, cP_le, eL_i, eL_l, eL_r, eL_n, Option.toList_none, Option.toList_some, List.nil_append, List.cons_append, kkI, llI, nnI, rrI, jjI, kkJ, llJ, nnJ, rrJ, iiJ, zIIs, zJJs, nEF, nET, and_false, false_and, jmin, jmax, catS_n, catS_i, catS_r, catS_l, Nat.reduceLeDiff, j1eq1, n21, jt0, jt1, Bool.false_eq_true, Classical.not_not, true_or, or_true, false_or, or_false, true_imp_iff, false_imp_iff, not_true_eq_false, not_false_eq_true, jif0, jif1, jifb, ltT, ltF, leT, leF, eqT, eqF, jlt, jle, jeq, jlt0, jle0, jeq0, jge0, jgt0, jinB, jnat, clt, cle, ceq, cgt, cge, lI_add, lI_sub, lI_mul, jadd, jsub, jmul, jneg, jtol, b010, b011, pv_2t, Int.toNat_natCast, Option.some.injEq, exists_eq_left', if_true, if_false, show gRc 243 = 0 from rfl]
    exact K g2 ((f2.wk fun z h => Or.inl h).tr f3) (fun i h1 h2 h3 h4 => by rw [e3 i h1 h2 h3 h4]; exact e2 i h3 h4) j3
  have lp : ∀ (j v : Nat), j + v = 61 → ∀ (g : Hp), fi (fun z => z = m + 22 ∨ z = m + 23) h g → (∀ i, i < v → zI g (m + 22) i = iI 0 ∧ zI g (m + 23) i = iI 0) → PW (D + 2) 243 6 [some (.ref m), some (.int (iI x)), some (.int (iI n)), some (.int (iI low)), some (.int (iI high)), some (.int (iI y)), some (.int (iI v)), none, none, none, none] [] g Q := by
    intro j
    induction j with
    | zero =>
      intro v hv g f z
      refine vs_ok 3 ?_
      rw [show ((gRes 243).drop 6).take 3 = [.iload 6, .iconst 61, .if_icmp .ge 21] from rfl]
      simp (disch := omega) only [vs_iconst, vs_if_icmp, vs_iload6, vs_nil, gv_0, gv_1, gv_2, gv_3, pv_0, pv_1, va_rf_s, Nat.reduceDiv, Nat.reduceMod, Nat.reduceAdd, Nat.reduceMul, Int.reduceToNat, true_and, and_true, and_self, cP_eq, cP_ne, cP_lt, cP_ge, cP_gt, cP_le, eL_i, eL_l, eL_r, eL_n, Option.toList_none, Option.toList_some, List.nil_append, List.cons_append, kkI, llI, nnI, rrI, jjI, kkJ, llJ, nnJ, rrJ, iiJ, zIIs, zJJs, nEF, nET, and_false, false_and, jmin, jmax, catS_n, catS_i, catS_r, catS_l, Nat.reduceLeDiff, j1eq1, n21, jt0, jt1, Bool.false_eq_true, Classical.not_not, true_or, or_true, false_or, or_false, true_imp_iff, false_imp_iff, not_true_eq_false, not_false_eq_true, jif0, jif1, jifb, ltT, ltF, leT, leF, eqT, eqF, jlt, jle, jeq, jlt0, jle0, jeq0, jge0, jgt0, jinB, jnat, clt, cle, ceq, cgt, cge, lI_add, lI_sub, lI_mul, jadd, jsub, jmul, jneg, jtol, b010, b011, pv_2t, Int.toNat_natCast, Option.some.injEq, exists_eq_left', if_true, if_false]
      exact p21 g _ _ _ _ _ f fun i hi => z i (by omega)
    | succ j ih =>
      intro v hv g f z
      have hg := hm.fi f
      have M := hg.k
      have A22 := hg.xs
      have A23 := hg.ys
      refine vs_ok 3 ?_
      rw [show ((gRes 243).drop 6).take 3 = [.iload 6, .iconst 61, .if_icmp .ge 21] from rfl]
      simp (disch := omega) only [vs_iconst, vs_if_icmp, vs_iload6, vs_nil, gv_0, gv_1, gv_2, gv_3, pv_0, pv_1, va_rf_s, Nat.reduceDiv, Nat.reduceMod, Nat.reduceAdd, Nat.reduceMul, Int.reduceToNat, true_and, and_true, and_self, cP_eq, cP_ne, cP_lt, cP_ge, cP_gt, cP_le, eL_i, eL_l, eL_r, eL_n, Option.toList_none, Option.toList_some, List.nil_append, List.cons_append, kkI, llI, nnI, rrI, jjI, kkJ, llJ, nnJ, rrJ, iiJ, zIIs, zJJs, nEF, nET, and_false, false_and, jmin, jmax, catS_n, catS_i, catS_r, catS_l, Nat.reduceLeDiff, j1eq1, n21, jt0, jt1, Bool.false_eq_true, Classical.not_not, true_or, or_true, false_or, or_false, true_imp_iff, false_imp_iff, not_true_eq_false, not_false_eq_true, jif0, jif1, jifb, ltT, ltF, leT, leF, eqT, eqF, jlt, jle, jeq, jlt0, jle0, jeq0, jge0, jgt0, jinB, jnat, clt, cle, ceq, cgt, cge, lI_add, lI_sub, lI_mul, jadd, jsub, jmul, jneg, jtol, b010, b011, pv_2t, Int.toNat_natCast, Option.some.injEq, exists_eq_left', if_true, if_false]
      refine vs_ok 12 ?_
      rw [show ((gRes 243).drop 9).take 12 = [.aload 0, .getfield 12342, .iload 6, .iconst 0, .iastore, .aload 0, .getfield 12352, .iload 6, .iconst 0, .iastore, .iinc 6 1, .goto 6] from rfl]
      simp (disch := omega) only [vs_iconst, vs_goto, vs_getfield, vs_iastore, vs_aload0, vs_iload6, vs_iinc6n, vs_iinc6i, vs_iinc6r, vs_iinc6l, vs_nil, gv_0, gv_1, gv_2, gv_3, pv_0, pv_1, va_rf_s, Nat.reduceDiv, Nat.reduceMod, Nat.reduceAdd, Nat.reduceMul, Int.reduceToNat, true_and, and_true, and_self, cP_eq, cP_ne, cP_lt, cP_ge, cP_gt, cP_le, eL_i, eL_l, eL_r, eL_n, Option.toList_none, Option.toList_some, List.nil_append, List.cons_append, kkI, llI, nnI, rrI, jjI, kkJ, llJ, nnJ, rrJ, iiJ, zIIs, zJJs, nEF, nET, and_false, false_and, jmin, jmax, catS_n, catS_i, catS_r, catS_l, Nat.reduceLeDiff, j1eq1, n21, jt0, jt1, Bool.false_eq_true, Classical.not_not, true_or, or_true, false_or, or_false, true_imp_iff, false_imp_iff, not_true_eq_false, not_false_eq_true, jif0, jif1, jifb, ltT, ltF, leT, leF, eqT, eqF, jlt, jle, jeq, jlt0, jle0, jeq0, jge0, jgt0, jinB, jnat, clt, cle, ceq, cgt, cge, lI_add, lI_sub, lI_mul, jadd, jsub, jmul, jneg, jtol, b010, b011, pv_2t, Int.toNat_natCast, Option.some.injEq, exists_eq_left', if_true, if_false, M, A22, A23]
      refine ih (v + 1) (by omega) _ ((f.I (Or.inl rfl)).I (Or.inr rfl)) fun i hi => ?_
      rw [zI_s, if_neg (by omega), zI_s, zI_s]
      by_cases c : i = v
      · rw [if_pos ⟨rfl, c⟩, if_pos ⟨rfl, c⟩]
        exact ⟨rfl, rfl⟩
      · rw [if_neg fun z => c z.2, if_neg fun z => c z.2, zI_s, if_neg (by omega)]
        exact z i (by omega)
  refine vs_ok 6 ?_
  rw [show ((gRes 243).drop 0).take 6 = [.iload 3, .iload 1, .isub, .istore 5, .iconst 0, .istore 6] from rfl]
  simp (disch := omega) only [vs_isub, vs_iconst, vs_iload1, vs_iload3, vs_istore5n, vs_istore5i, vs_istore5r, vs_istore5l, vs_istore6n, vs_istore6i, vs_istore6r, vs_istore6l, vs_nil, gv_0, gv_1, gv_2, gv_3, pv_0, pv_1, va_rf_s, Nat.reduceDiv, Nat.reduceMod, Nat.reduceAdd, Nat.reduceMul, Int.reduceToNat, true_and, and_true, and_self, cP_eq, cP_ne, cP_lt, cP_ge, cP_gt, cP_le, eL_i, eL_l, eL_r, eL_n, Option.toList_none, Option.toList_some, List.nil_append, List.cons_append, kkI, llI, nnI, rrI, jjI, kkJ, llJ, nnJ, rrJ, iiJ, zIIs, zJJs, nEF, nET, and_false, false_and, jmin, jmax, catS_n, catS_i, catS_r, catS_l, Nat.reduceLeDiff, j1eq1, n21, jt0, jt1, Bool.false_eq_true, Classical.not_not, true_or, or_true, false_or, or_false, true_imp_iff, false_imp_iff, not_true_eq_false, not_false_eq_true, jif0, jif1, jifb, ltT, ltF, leT, leF, eqT, eqF, jlt, jle, jeq, jlt0, jle0, jeq0, jge0, jgt0, jinB, jnat, clt, cle, ceq, cgt, cge, lI_add, lI_sub, lI_mul, jadd, jsub, jmul, jneg, jtol, b010, b011, pv_2t, Int.toNat_natCast, Option.some.injEq, exists_eq_left', if_true, if_false, ey]
  exact lp 61 0 rfl h fi.rf fun i hi => absurd hi (Nat.not_lt_zero i)
