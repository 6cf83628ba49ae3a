/-! the law's rows, the later cases -/
section LAW2
variable {x m o L n : Nat} {S : Nat → Int} {c s : Nat} {h : Hp} {a5 a6 a7 : Option Value} {Q : Nat → Option Value → Hp → Prop}
set_option maxRecDepth 20000 in
theorem lw_16 (E : LE h x m o L S c s) (hm : m = x + 161) (ho : o = x + 197) (hS : ∀ k, i32 (S k)) (hL : L ≤ 3072) (hn : n + 6 ≤ L) (K : ∀ g b5 b6 b7, LE g x m o L S (c + 1) (s + 6) → PW 140 282 806 [some (.ref zSC), some (.ref x), some (.ref m), some (.ref o), some (.int (iI n)), b5, b6, b7] [] g Q) : PW 140 282 395 [some (.ref zSC), some (.ref x), some (.ref m), some (.ref o), some (.int (iI n)), a5, a6, a7] [] h Q := by
  obtain ⟨I, e1, e2, e3, e4⟩ := id E
  have kx := I.1.1.N
  have km := I.1.2.1.k
  refine PW.al rfl rfl ?_
  refine PW.sarg (j := 1) (v := S (n + 1)) rfl (by omega) hL e3 (e4 _ (by omega)) ?_
  refine PW.iv rfl rfl rfl kx.1 kx.2 (le_b rfl) (le_b rfl) ?_
  refine PW.kp e1 ?_
  refine p_picks (hS _) hm I _ fun g1 v pv z zk M kp => ⟨rfl, ⟨z.1, ?_⟩, ?_⟩
  · obtain ⟨v0, rfl⟩ := pv
    rfl
  · obtain ⟨v0, rfl⟩ := pv
    show PW 140 282 402 [some (.ref zSC), some (.ref x), some (.ref m), some (.ref o), some (.int (iI n)), a5, a6, a7] [.int v0] g1 Q
    have n1 : zN g1 ≤ zSC := by rw [z.1]; exact e1
    refine PW.al rfl rfl ?_
    have f3 : zL g1 zSC = L := by rw [kp.2.2.1]; exact e3
    have f4 : ∀ k, k < L → zI g1 zSC k = iI (S k) := fun k hk => by rw [kp.2.1]; exact e4 k hk
    refine PW.sarg (j := 1) (v := S (n + 1)) rfl (by omega) hL f3 (f4 _ (by omega)) ?_
    refine PW.iv rfl rfl rfl (by rw [zk]; exact km.1) (by rw [z.1]; exact km.2) (le_b rfl) (le_b rfl) ?_
    refine PW.kp n1 ?_
    refine M _ fun g2 z2 I2 kp2 => ⟨rfl, ⟨z2.1, rfl⟩, ?_⟩
    show PW 140 282 409 [some (.ref zSC), some (.ref x), some (.ref m), some (.ref o), some (.int (iI n)), a5, a6, a7] [.int v0, .int v0] g2 Q
    refine PW.eqI rfl ?_
    have E2 := E.go (kp.tr kp2) (z.tr z2) I2
    exact K g2 _ _ _ ⟨E2.1, E2.2.1, ⟨by have := E2.2.2.1.1; omega, by have := E2.2.2.1.2; omega⟩, E2.2.2.2⟩
set_option maxRecDepth 20000 in
theorem lw_17 (E : LE h x m o L S c s) (hm : m = x + 161) (ho : o = x + 197) (hS : ∀ k, i32 (S k)) (hL : L ≤ 3072) (hn : n + 6 ≤ L) (K : ∀ g b5 b6 b7, LE g x m o L S (c + 1) (s + 6) → PW 140 282 806 [some (.ref zSC), some (.ref x), some (.ref m), some (.ref o), some (.int (iI n)), b5, b6, b7] [] g Q) : PW 140 282 412 [some (.ref zSC), some (.ref x), some (.ref m), some (.ref o), some (.int (iI n)), a5, a6, a7] [] h Q := by
  obtain ⟨I, e1, e2, e3, e4⟩ := id E
  have kx := I.1.1.N
  have km := I.1.2.1.k
  refine PW.al rfl rfl ?_
  refine PW.sarg (j := 1) (v := S (n + 1)) rfl (by omega) hL e3 (e4 _ (by omega)) ?_
  refine PW.iv rfl rfl rfl kx.1 kx.2 (le_b rfl) (le_b rfl) ?_
  refine PW.kp e1 ?_
  refine p_pickAt (hS _) hm I _ fun g1 v pv z zk M kp => ⟨rfl, ⟨z.1, ?_⟩, ?_⟩
  · obtain ⟨v0, rfl⟩ := pv
    rfl
  · obtain ⟨v0, rfl⟩ := pv
    show PW 140 282 419 [some (.ref zSC), some (.ref x), some (.ref m), some (.ref o), some (.int (iI n)), a5, a6, a7] [.int v0] g1 Q
    have n1 : zN g1 ≤ zSC := by rw [z.1]; exact e1
    refine PW.al rfl rfl ?_
    have f3 : zL g1 zSC = L := by rw [kp.2.2.1]; exact e3
    have f4 : ∀ k, k < L → zI g1 zSC k = iI (S k) := fun k hk => by rw [kp.2.1]; exact e4 k hk
    refine PW.sarg (j := 1) (v := S (n + 1)) rfl (by omega) hL f3 (f4 _ (by omega)) ?_
    refine PW.iv rfl rfl rfl (by rw [zk]; exact km.1) (by rw [z.1]; exact km.2) (le_b rfl) (le_b rfl) ?_
    refine PW.kp n1 ?_
    refine M _ fun g2 z2 I2 kp2 => ⟨rfl, ⟨z2.1, rfl⟩, ?_⟩
    show PW 140 282 426 [some (.ref zSC), some (.ref x), some (.ref m), some (.ref o), some (.int (iI n)), a5, a6, a7] [.int v0, .int v0] g2 Q
    refine PW.eqI rfl ?_
    have E2 := E.go (kp.tr kp2) (z.tr z2) I2
    exact K g2 _ _ _ ⟨E2.1, E2.2.1, ⟨by have := E2.2.2.1.1; omega, by have := E2.2.2.1.2; omega⟩, E2.2.2.2⟩
set_option maxRecDepth 20000 in
theorem lw_18 (E : LE h x m o L S c s) (hm : m = x + 161) (ho : o = x + 197) (hS : ∀ k, i32 (S k)) (hL : L ≤ 3072) (hn : n + 6 ≤ L) (K : ∀ g b5 b6 b7, LE g x m o L S (c + 1) (s + 6) → PW 140 282 806 [some (.ref zSC), some (.ref x), some (.ref m), some (.ref o), some (.int (iI n)), b5, b6, b7] [] g Q) : PW 140 282 429 [some (.ref zSC), some (.ref x), some (.ref m), some (.ref o), some (.int (iI n)), a5, a6, a7] [] h Q := by
  obtain ⟨I, e1, e2, e3, e4⟩ := id E
  have kx := I.1.1.N
  have km := I.1.2.1.k
  refine PW.al rfl rfl ?_
  refine PW.sarg (j := 1) (v := S (n + 1)) rfl (by omega) hL e3 (e4 _ (by omega)) ?_
  refine PW.sarg (j := 2) (v := S (n + 2)) rfl (by omega) hL e3 (e4 _ (by omega)) ?_
  refine PW.sarg (j := 3) (v := S (n + 3)) rfl (by omega) hL e3 (e4 _ (by omega)) ?_
  refine PW.sarg (j := 4) (v := S (n + 4)) rfl (by omega) hL e3 (e4 _ (by omega)) ?_
  refine PW.sarg (j := 5) (v := S (n + 5)) rfl (by omega) hL e3 (e4 _ (by omega)) ?_
  refine PW.iv rfl rfl rfl kx.1 kx.2 (le_b rfl) (le_b rfl) ?_
  refine PW.kp e1 ?_
  refine p_others (hS _) (hS _) (hS _) (hS _) (hS _) hm I _ fun g1 v pv z zk M kp => ⟨rfl, ⟨z.1, ?_⟩, ?_⟩
  · obtain ⟨v0, rfl⟩ := pv
    rfl
  · obtain ⟨v0, rfl⟩ := pv
    show PW 140 282 456 [some (.ref zSC), some (.ref x), some (.ref m), some (.ref o), some (.int (iI n)), a5, a6, a7] [.int v0] g1 Q
    have n1 : zN g1 ≤ zSC := by rw [z.1]; exact e1
    refine PW.al rfl rfl ?_
    have f3 : zL g1 zSC = L := by rw [kp.2.2.1]; exact e3
    have f4 : ∀ k, k < L → zI g1 zSC k = iI (S k) := fun k hk => by rw [kp.2.1]; exact e4 k hk
    refine PW.sarg (j := 1) (v := S (n + 1)) rfl (by omega) hL f3 (f4 _ (by omega)) ?_
    refine PW.sarg (j := 2) (v := S (n + 2)) rfl (by omega) hL f3 (f4 _ (by omega)) ?_
    refine PW.sarg (j := 3) (v := S (n + 3)) rfl (by omega) hL f3 (f4 _ (by omega)) ?_
    refine PW.sarg (j := 4) (v := S (n + 4)) rfl (by omega) hL f3 (f4 _ (by omega)) ?_
    refine PW.sarg (j := 5) (v := S (n + 5)) rfl (by omega) hL f3 (f4 _ (by omega)) ?_
    refine PW.iv rfl rfl rfl (by rw [zk]; exact km.1) (by rw [z.1]; exact km.2) (le_b rfl) (le_b rfl) ?_
    refine PW.kp n1 ?_
    refine M _ fun g2 z2 I2 kp2 => ⟨rfl, ⟨z2.1, rfl⟩, ?_⟩
    show PW 140 282 483 [some (.ref zSC), some (.ref x), some (.ref m), some (.ref o), some (.int (iI n)), a5, a6, a7] [.int v0, .int v0] g2 Q
    refine PW.eqI rfl ?_
    have E2 := E.go (kp.tr kp2) (z.tr z2) I2
    exact K g2 _ _ _ ⟨E2.1, E2.2.1, ⟨by have := E2.2.2.1.1; omega, by have := E2.2.2.1.2; omega⟩, E2.2.2.2⟩
set_option maxRecDepth 20000 in
theorem lw_19 (E : LE h x m o L S c s) (hm : m = x + 161) (ho : o = x + 197) (hS : ∀ k, i32 (S k)) (hL : L ≤ 3072) (hn : n + 6 ≤ L) (K : ∀ g b5 b6 b7, LE g x m o L S (c + 1) (s + 6) → PW 140 282 806 [some (.ref zSC), some (.ref x), some (.ref m), some (.ref o), some (.int (iI n)), b5, b6, b7] [] g Q) : PW 140 282 486 [some (.ref zSC), some (.ref x), some (.ref m), some (.ref o), some (.int (iI n)), a5, a6, a7] [] h Q := by
  obtain ⟨I, e1, e2, e3, e4⟩ := id E
  have kx := I.1.1.N
  have km := I.1.2.1.k
  refine PW.al rfl rfl ?_
  refine PW.sarg (j := 1) (v := S (n + 1)) rfl (by omega) hL e3 (e4 _ (by omega)) ?_
  refine PW.sarg (j := 2) (v := S (n + 2)) rfl (by omega) hL e3 (e4 _ (by omega)) ?_
  refine PW.sarg (j := 3) (v := S (n + 3)) rfl (by omega) hL e3 (e4 _ (by omega)) ?_
  refine PW.al rfl rfl ?_
  have ko : zK h o = 15 ∧ o < zN h ∧ zL h o = 1 := ⟨I.1.2.2.2.1, I.1.2.2.2.2.2, I.1.2.2.2.2.1⟩
  obtain ⟨r, hD, hN, hV⟩ := p_otherAt (hS _) (hS _) (hS _) hm ho I
  refine PW.ss (a := [.ref x, .int (iI (S (n + 1))), .int (iI (S (n + 2))), .int (iI (S (n + 3))), .ref o]) (r := []) rfl (le_b rfl) rfl rfl (le_b rfl) (le_b rfl) ?_
  refine PW.kp e1 ?_
  refine t_L_otherAt ⟨kx, ko⟩ hD (fun er kp => ⟨rfl, ⟨rfl, rfl⟩, ?_⟩) fun v0 er kp => ⟨rfl, ⟨rfl, rfl⟩, ?_⟩
  · show PW 140 282 504 [some (.ref zSC), some (.ref x), some (.ref m), some (.ref o), some (.int (iI n)), a5, a6, a7] [.int (iI 1)] (zThr h) Q
    have n1 : zN (zThr h) ≤ zSC := e1
    have f3 : zL (zThr h) zSC = L := e3
    have f4 : ∀ k, k < L → zI (zThr h) zSC k = iI (S k) := e4
    have k1 : zK (zThr h) = zK h := rfl
    have k2 : zN (zThr h) = zN h := rfl
    refine vs_ok 1 ?_
    rw [show ((gRes 282).drop 504).take 1 = [.istore 5] from rfl]
    simp (disch := omega) only [vs_istore5n, vs_istore5i, vs_istore5r, vs_istore5l, vs_nil, gv_0, gv_1, gv_2, gv_3, pv_0, pv_1, va_rf_s, Nat.reduceDiv, Nat.reduceMod, Nat.reduceAdd, Nat.reduceMul, Int.reduceToNat, true_and, and_true, and_self, cP_eq, cP_ne, cP_lt, cP_ge, cP_gt, cP_le, eL_i, eL_l, eL_r, eL_n, Option.toList_none, Option.toList_some, List.nil_append, List.cons_append, kkI, llI, nnI, rrI, jjI, kkJ, llJ, nnJ, rrJ, iiJ, zIIs, zJJs, nEF, nET, and_false, false_and, jmin, jmax, catS_n, catS_i, catS_r, catS_l, Nat.reduceLeDiff, j1eq1, n21, jt0, jt1, Bool.false_eq_true, Classical.not_not, true_or, or_true, false_or, or_false, true_imp_iff, false_imp_iff, not_true_eq_false, not_false_eq_true, jif0, jif1, jifb, ltT, ltF, leT, leF, eqT, eqF, jlt, jle, jeq, jlt0, jle0, jeq0, jge0, jgt0, jinB, jnat, clt, cle, ceq, cgt, cge, lI_add, lI_sub, lI_mul, jadd, jsub, jmul, jneg, jtol, b010, b011, pv_2t, Int.toNat_natCast, Option.some.injEq, exists_eq_left', if_true, if_false]
    refine PW.al rfl rfl ?_
    refine PW.sarg (j := 1) (v := S (n + 1)) rfl (by omega) hL f3 (f4 _ (by omega)) ?_
    refine PW.sarg (j := 2) (v := S (n + 2)) rfl (by omega) hL f3 (f4 _ (by omega)) ?_
    refine PW.sarg (j := 3) (v := S (n + 3)) rfl (by omega) hL f3 (f4 _ (by omega)) ?_
    refine PW.iv rfl rfl rfl km.1 km.2 (le_b rfl) (le_b rfl) ?_
    refine PW.kp n1 ?_
    refine hN er _ fun g2 v2 z2 zk I2 t1 pv kp2 => ⟨rfl, ⟨z2.1, ?_⟩, ?_⟩
    · obtain ⟨v0, rfl⟩ := pv
      rfl
    obtain ⟨v0, rfl⟩ := pv
    show PW 140 282 522 [some (.ref zSC), some (.ref x), some (.ref m), some (.ref o), some (.int (iI n)), some (.int (iI 1)), a6, a7] [.int v0] g2 Q
    refine vs_ok 1 ?_
    rw [show ((gRes 282).drop 522).take 1 = [.istore 6] from rfl]
    simp (disch := omega) only [vs_istore6n, vs_istore6i, vs_istore6r, vs_istore6l, vs_nil, gv_0, gv_1, gv_2, gv_3, pv_0, pv_1, va_rf_s, Nat.reduceDiv, Nat.reduceMod, Nat.reduceAdd, Nat.reduceMul, Int.reduceToNat, true_and, and_true, and_self, cP_eq, cP_ne, cP_lt, cP_ge, cP_gt, cP_le, eL_i, eL_l, eL_r, eL_n, Option.toList_none, Option.toList_some, List.nil_append, List.cons_append, kkI, llI, nnI, rrI, jjI, kkJ, llJ, nnJ, rrJ, iiJ, zIIs, zJJs, nEF, nET, and_false, false_and, jmin, jmax, catS_n, catS_i, catS_r, catS_l, Nat.reduceLeDiff, j1eq1, n21, jt0, jt1, Bool.false_eq_true, Classical.not_not, true_or, or_true, false_or, or_false, true_imp_iff, false_imp_iff, not_true_eq_false, not_false_eq_true, jif0, jif1, jifb, ltT, ltF, leT, leF, eqT, eqF, jlt, jle, jeq, jlt0, jle0, jeq0, jge0, jgt0, jinB, jnat, clt, cle, ceq, cgt, cge, lI_add, lI_sub, lI_mul, jadd, jsub, jmul, jneg, jtol, b010, b011, pv_2t, Int.toNat_natCast, Option.some.injEq, exists_eq_left', if_true, if_false]
    have ko2 : zK g2 o = 15 ∧ o < zN g2 ∧ zL g2 o = 1 := ⟨I2.1.2.2.2.1, I2.1.2.2.2.2.2, I2.1.2.2.2.2.1⟩
    have E2 : LE g2 x m o L S (c + 1) (s + 6) := ⟨I2, by rw [z2.1]; exact n1, ⟨by rw [z2.2.1]; show zC h + 1 ≤ c + 1; omega, by rw [z2.2.2]; show zS h + 6 ≤ s + 6; omega⟩, by rw [kp2.2.2.1]; exact f3, fun k hk => by rw [kp2.2.1]; exact f4 k hk⟩
    refine PW.al rfl rfl ?_
    refine PW.iv rfl rfl rfl (by rw [zk]; exact km.1) (by rw [z2.1]; exact km.2) (le_b rfl) (le_b rfl) ?_
    refine t_M_thrown I2.1.2.1 t1 ⟨rfl, ⟨rfl, rfl⟩, ?_⟩
    show PW 140 282 525 [some (.ref zSC), some (.ref x), some (.ref m), some (.ref o), some (.int (iI n)), some (.int (iI 1)), some (.int v0), a7] [.int (iI 1)] g2 Q
    refine PW.il rfl rfl ?_
    refine PW.eqI rfl ?_
    show PW 140 282 529 [some (.ref zSC), some (.ref x), some (.ref m), some (.ref o), some (.int (iI n)), some (.int (iI 1)), some (.int v0), a7] [] g2 Q
    refine vs_ok 2 ?_
    rw [show ((gRes 282).drop 529).take 2 = [.iload 5, .ifCond .ne 540] from rfl]
    simp (disch := omega) only [vs_ifCond, vs_iload5, vs_nil, gv_0, gv_1, gv_2, gv_3, pv_0, pv_1, va_rf_s, Nat.reduceDiv, Nat.reduceMod, Nat.reduceAdd, Nat.reduceMul, Int.reduceToNat, true_and, and_true, and_self, cP_eq, cP_ne, cP_lt, cP_ge, cP_gt, cP_le, eL_i, eL_l, eL_r, eL_n, Option.toList_none, Option.toList_some, List.nil_append, List.cons_append, kkI, llI, nnI, rrI, jjI, kkJ, llJ, nnJ, rrJ, iiJ, zIIs, zJJs, nEF, nET, and_false, false_and, jmin, jmax, catS_n, catS_i, catS_r, catS_l, Nat.reduceLeDiff, j1eq1, n21, jt0, jt1, Bool.false_eq_true, Classical.not_not, true_or, or_true, false_or, or_false, true_imp_iff, false_imp_iff, not_true_eq_false, not_false_eq_true, jif0, jif1, jifb, ltT, ltF, leT, leF, eqT, eqF, jlt, jle, jeq, jlt0, jle0, jeq0, jge0, jgt0, jinB, jnat, clt, cle, ceq, cgt, cge, lI_add, lI_sub, lI_mul, jadd, jsub, jmul, jneg, jtol, b010, b011, pv_2t, Int.toNat_natCast, Option.some.injEq, exists_eq_left', if_true, if_false]
    refine vs_ok 1 ?_
    rw [show ((gRes 282).drop 540).take 1 = [.goto 806] from rfl]
    simp (disch := omega) only [vs_goto, vs_nil, gv_0, gv_1, gv_2, gv_3, pv_0, pv_1, va_rf_s, Nat.reduceDiv, Nat.reduceMod, Nat.reduceAdd, Nat.reduceMul, Int.reduceToNat, true_and, and_true, and_self, cP_eq, cP_ne, cP_lt, cP_ge, cP_gt, cP_le, eL_i, eL_l, eL_r, eL_n, Option.toList_none, Option.toList_some, List.nil_append, List.cons_append, kkI, llI, nnI, rrI, jjI, kkJ, llJ, nnJ, rrJ, iiJ, zIIs, zJJs, nEF, nET, and_false, false_and, jmin, jmax, catS_n, catS_i, catS_r, catS_l, Nat.reduceLeDiff, j1eq1, n21, jt0, jt1, Bool.false_eq_true, Classical.not_not, true_or, or_true, false_or, or_false, true_imp_iff, false_imp_iff, not_true_eq_false, not_false_eq_true, jif0, jif1, jifb, ltT, ltF, leT, leF, eqT, eqF, jlt, jle, jeq, jlt0, jle0, jeq0, jge0, jgt0, jinB, jnat, clt, cle, ceq, cgt, cge, lI_add, lI_sub, lI_mul, jadd, jsub, jmul, jneg, jtol, b010, b011, pv_2t, Int.toNat_natCast, Option.some.injEq, exists_eq_left', if_true, if_false]
    exact K g2 _ _ _ E2
  · show PW 140 282 504 [some (.ref zSC), some (.ref x), some (.ref m), some (.ref o), some (.int (iI n)), a5, a6, a7] [.int (iI 0)] (zsJ h o 0 v0.toInt64) Q
    have n1 : zN (zsJ h o 0 v0.toInt64) ≤ zSC := e1
    have f3 : zL (zsJ h o 0 v0.toInt64) zSC = L := e3
    have f4 : ∀ k, k < L → zI (zsJ h o 0 v0.toInt64) zSC k = iI (S k) := e4
    have k1 : zK (zsJ h o 0 v0.toInt64) = zK h := rfl
    have k2 : zN (zsJ h o 0 v0.toInt64) = zN h := rfl
    refine vs_ok 1 ?_
    rw [show ((gRes 282).drop 504).take 1 = [.istore 5] from rfl]
    simp (disch := omega) only [vs_istore5n, vs_istore5i, vs_istore5r, vs_istore5l, vs_nil, gv_0, gv_1, gv_2, gv_3, pv_0, pv_1, va_rf_s, Nat.reduceDiv, Nat.reduceMod, Nat.reduceAdd, Nat.reduceMul, Int.reduceToNat, true_and, and_true, and_self, cP_eq, cP_ne, cP_lt, cP_ge, cP_gt, cP_le, eL_i, eL_l, eL_r, eL_n, Option.toList_none, Option.toList_some, List.nil_append, List.cons_append, kkI, llI, nnI, rrI, jjI, kkJ, llJ, nnJ, rrJ, iiJ, zIIs, zJJs, nEF, nET, and_false, false_and, jmin, jmax, catS_n, catS_i, catS_r, catS_l, Nat.reduceLeDiff, j1eq1, n21, jt0, jt1, Bool.false_eq_true, Classical.not_not, true_or, or_true, false_or, or_false, true_imp_iff, false_imp_iff, not_true_eq_false, not_false_eq_true, jif0, jif1, jifb, ltT, ltF, leT, leF, eqT, eqF, jlt, jle, jeq, jlt0, jle0, jeq0, jge0, jgt0, jinB, jnat, clt, cle, ceq, cgt, cge, lI_add, lI_sub, lI_mul, jadd, jsub, jmul, jneg, jtol, b010, b011, pv_2t, Int.toNat_natCast, Option.some.injEq, exists_eq_left', if_true, if_false]
    refine PW.al rfl rfl ?_
    refine PW.sarg (j := 1) (v := S (n + 1)) rfl (by omega) hL f3 (f4 _ (by omega)) ?_
    refine PW.sarg (j := 2) (v := S (n + 2)) rfl (by omega) hL f3 (f4 _ (by omega)) ?_
    refine PW.sarg (j := 3) (v := S (n + 3)) rfl (by omega) hL f3 (f4 _ (by omega)) ?_
    refine PW.iv rfl rfl rfl km.1 km.2 (le_b rfl) (le_b rfl) ?_
    refine PW.kp n1 ?_
    refine hV _ er ⟨_, rfl⟩ _ _ fun g2 z2 zk I2 t1 o1 o2 kp2 => ⟨rfl, ⟨z2.1, rfl⟩, ?_⟩
    show PW 140 282 522 [some (.ref zSC), some (.ref x), some (.ref m), some (.ref o), some (.int (iI n)), some (.int (iI 0)), a6, a7] [.int v0] g2 Q
    refine vs_ok 1 ?_
    rw [show ((gRes 282).drop 522).take 1 = [.istore 6] from rfl]
    simp (disch := omega) only [vs_istore6n, vs_istore6i, vs_istore6r, vs_istore6l, vs_nil, gv_0, gv_1, gv_2, gv_3, pv_0, pv_1, va_rf_s, Nat.reduceDiv, Nat.reduceMod, Nat.reduceAdd, Nat.reduceMul, Int.reduceToNat, true_and, and_true, and_self, cP_eq, cP_ne, cP_lt, cP_ge, cP_gt, cP_le, eL_i, eL_l, eL_r, eL_n, Option.toList_none, Option.toList_some, List.nil_append, List.cons_append, kkI, llI, nnI, rrI, jjI, kkJ, llJ, nnJ, rrJ, iiJ, zIIs, zJJs, nEF, nET, and_false, false_and, jmin, jmax, catS_n, catS_i, catS_r, catS_l, Nat.reduceLeDiff, j1eq1, n21, jt0, jt1, Bool.false_eq_true, Classical.not_not, true_or, or_true, false_or, or_false, true_imp_iff, false_imp_iff, not_true_eq_false, not_false_eq_true, jif0, jif1, jifb, ltT, ltF, leT, leF, eqT, eqF, jlt, jle, jeq, jlt0, jle0, jeq0, jge0, jgt0, jinB, jnat, clt, cle, ceq, cgt, cge, lI_add, lI_sub, lI_mul, jadd, jsub, jmul, jneg, jtol, b010, b011, pv_2t, Int.toNat_natCast, Option.some.injEq, exists_eq_left', if_true, if_false]
    have ko2 : zK g2 o = 15 ∧ o < zN g2 ∧ zL g2 o = 1 := ⟨I2.1.2.2.2.1, I2.1.2.2.2.2.2, I2.1.2.2.2.2.1⟩
    have E2 : LE g2 x m o L S (c + 1) (s + 6) := ⟨I2, by rw [z2.1]; exact n1, ⟨by rw [z2.2.1]; show zC h ≤ c + 1; omega, by rw [z2.2.2]; show zS h ≤ s + 6; omega⟩, by rw [kp2.2.2.1]; exact f3, fun k hk => by rw [kp2.2.1]; exact f4 k hk⟩
    refine PW.al rfl rfl ?_
    refine PW.iv rfl rfl rfl (by rw [zk]; exact km.1) (by rw [z2.1]; exact km.2) (le_b rfl) (le_b rfl) ?_
    refine t_M_thrown I2.1.2.1 t1 ⟨rfl, ⟨rfl, rfl⟩, ?_⟩
    show PW 140 282 525 [some (.ref zSC), some (.ref x), some (.ref m), some (.ref o), some (.int (iI n)), some (.int (iI 0)), some (.int v0), a7] [.int (iI 0)] g2 Q
    refine PW.il rfl rfl ?_
    refine PW.eqI rfl ?_
    show PW 140 282 529 [some (.ref zSC), some (.ref x), some (.ref m), some (.ref o), some (.int (iI n)), some (.int (iI 0)), some (.int v0), a7] [] g2 Q
    refine vs_ok 2 ?_
    rw [show ((gRes 282).drop 529).take 2 = [.iload 5, .ifCond .ne 540] from rfl]
    simp (disch := omega) only [vs_ifCond, vs_iload5, vs_nil, gv_0, gv_1, gv_2, gv_3, pv_0, pv_1, va_rf_s, Nat.reduceDiv, Nat.reduceMod, Nat.reduceAdd, Nat.reduceMul, Int.reduceToNat, true_and, and_true, and_self, cP_eq, cP_ne, cP_lt, cP_ge, cP_gt, cP_le, eL_i, eL_l, eL_r, eL_n, Option.toList_none, Option.toList_some, List.nil_append, List.cons_append, kkI, llI, nnI, rrI, jjI, kkJ, llJ, nnJ, rrJ, iiJ, zIIs, zJJs, nEF, nET, and_false, false_and, jmin, jmax, catS_n, catS_i, catS_r, catS_l, Nat.reduceLeDiff, j1eq1, n21, jt0, jt1, Bool.false_eq_true, Classical.not_not, true_or, or_true, false_or, or_false, true_imp_iff, false_imp_iff, not_true_eq_false, not_false_eq_true, jif0, jif1, jifb, ltT, ltF, leT, leF, eqT, eqF, jlt, jle, jeq, jlt0, jle0, jeq0, jge0, jgt0, jinB, jnat, clt, cle, ceq, cgt, cge, lI_add, lI_sub, lI_mul, jadd, jsub, jmul, jneg, jtol, b010, b011, pv_2t, Int.toNat_natCast, Option.some.injEq, exists_eq_left', if_true, if_false]
    refine vs_ok 5 ?_
    rw [show ((gRes 282).drop 531).take 5 = [.aload 3, .iconst 0, .laload, .iload 6, .i2l] from rfl]
    simp (disch := omega) only [vs_i2l, vs_iconst, vs_laload, vs_aload3, vs_iload6, vs_nil, gv_0, gv_1, gv_2, gv_3, pv_0, pv_1, va_rf_s, Nat.reduceDiv, Nat.reduceMod, Nat.reduceAdd, Nat.reduceMul, Int.reduceToNat, true_and, and_true, and_self, cP_eq, cP_ne, cP_lt, cP_ge, cP_gt, cP_le, eL_i, eL_l, eL_r, eL_n, Option.toList_none, Option.toList_some, List.nil_append, List.cons_append, kkI, llI, nnI, rrI, jjI, kkJ, llJ, nnJ, rrJ, iiJ, zIIs, zJJs, nEF, nET, and_false, false_and, jmin, jmax, catS_n, catS_i, catS_r, catS_l, Nat.reduceLeDiff, j1eq1, n21, jt0, jt1, Bool.false_eq_true, Classical.not_not, true_or, or_true, false_or, or_false, true_imp_iff, false_imp_iff, not_true_eq_false, not_false_eq_true, jif0, jif1, jifb, ltT, ltF, leT, leF, eqT, eqF, jlt, jle, jeq, jlt0, jle0, jeq0, jge0, jgt0, jinB, jnat, clt, cle, ceq, cgt, cge, lI_add, lI_sub, lI_mul, jadd, jsub, jmul, jneg, jtol, b010, b011, pv_2t, Int.toNat_natCast, Option.some.injEq, exists_eq_left', if_true, if_false, ko2, o1]
    refine PW.eqL rfl rfl ?_
    show PW 140 282 540 [some (.ref zSC), some (.ref x), some (.ref m), some (.ref o), some (.int (iI n)), some (.int (iI 0)), some (.int v0), a7] [] g2 Q
    refine vs_ok 1 ?_
    rw [show ((gRes 282).drop 540).take 1 = [.goto 806] from rfl]
    simp (disch := omega) only [vs_goto, vs_nil, gv_0, gv_1, gv_2, gv_3, pv_0, pv_1, va_rf_s, Nat.reduceDiv, Nat.reduceMod, Nat.reduceAdd, Nat.reduceMul, Int.reduceToNat, true_and, and_true, and_self, cP_eq, cP_ne, cP_lt, cP_ge, cP_gt, cP_le, eL_i, eL_l, eL_r, eL_n, Option.toList_none, Option.toList_some, List.nil_append, List.cons_append, kkI, llI, nnI, rrI, jjI, kkJ, llJ, nnJ, rrJ, iiJ, zIIs, zJJs, nEF, nET, and_false, false_and, jmin, jmax, catS_n, catS_i, catS_r, catS_l, Nat.reduceLeDiff, j1eq1, n21, jt0, jt1, Bool.false_eq_true, Classical.not_not, true_or, or_true, false_or, or_false, true_imp_iff, false_imp_iff, not_true_eq_false, not_false_eq_true, jif0, jif1, jifb, ltT, ltF, leT, leF, eqT, eqF, jlt, jle, jeq, jlt0, jle0, jeq0, jge0, jgt0, jinB, jnat, clt, cle, ceq, cgt, cge, lI_add, lI_sub, lI_mul, jadd, jsub, jmul, jneg, jtol, b010, b011, pv_2t, Int.toNat_natCast, Option.some.injEq, exists_eq_left', if_true, if_false]
    exact K g2 _ _ _ E2
set_option maxRecDepth 20000 in
theorem lw_20 (E : LE h x m o L S c s) (hm : m = x + 161) (ho : o = x + 197) (hS : ∀ k, i32 (S k)) (hL : L ≤ 3072) (hn : n + 6 ≤ L) (K : ∀ g b5 b6 b7, LE g x m o L S (c + 1) (s + 6) → PW 140 282 806 [some (.ref zSC), some (.ref x), some (.ref m), some (.ref o), some (.int (iI n)), b5, b6, b7] [] g Q) : PW 140 282 541 [some (.ref zSC), some (.ref x), some (.ref m), some (.ref o), some (.int (iI n)), a5, a6, a7] [] h Q := by
  obtain ⟨I, e1, e2, e3, e4⟩ := id E
  have kx := I.1.1.N
  have km := I.1.2.1.k
  refine PW.al rfl rfl ?_
  refine PW.iv rfl rfl rfl kx.1 kx.2 (le_b rfl) (le_b rfl) ?_
  refine PW.kp e1 ?_
  refine p_fair hm I _ fun g1 v pv z zk M kp => ⟨rfl, ⟨z.1, ?_⟩, ?_⟩
  · obtain ⟨v0, rfl⟩ := pv
    rfl
  · obtain ⟨v0, rfl⟩ := pv
    show PW 140 282 543 [some (.ref zSC), some (.ref x), some (.ref m), some (.ref o), some (.int (iI n)), a5, a6, a7] [.int v0] g1 Q
    have n1 : zN g1 ≤ zSC := by rw [z.1]; exact e1
    refine PW.al rfl rfl ?_
    refine PW.iv rfl rfl rfl (by rw [zk]; exact km.1) (by rw [z.1]; exact km.2) (le_b rfl) (le_b rfl) ?_
    refine PW.kp n1 ?_
    refine M _ fun g2 z2 I2 kp2 => ⟨rfl, ⟨z2.1, rfl⟩, ?_⟩
    show PW 140 282 545 [some (.ref zSC), some (.ref x), some (.ref m), some (.ref o), some (.int (iI n)), a5, a6, a7] [.int v0, .int v0] g2 Q
    refine PW.eqI rfl ?_
    have E2 := E.go (kp.tr kp2) (z.tr z2) I2
    exact K g2 _ _ _ ⟨E2.1, E2.2.1, ⟨by have := E2.2.2.1.1; omega, by have := E2.2.2.1.2; omega⟩, E2.2.2.2⟩
set_option maxRecDepth 20000 in
theorem lw_21 (E : LE h x m o L S c s) (hm : m = x + 161) (ho : o = x + 197) (hS : ∀ k, i32 (S k)) (hL : L ≤ 3072) (hn : n + 6 ≤ L) (K : ∀ g b5 b6 b7, LE g x m o L S (c + 1) (s + 6) → PW 140 282 806 [some (.ref zSC), some (.ref x), some (.ref m), some (.ref o), some (.int (iI n)), b5, b6, b7] [] g Q) : PW 140 282 548 [some (.ref zSC), some (.ref x), some (.ref m), some (.ref o), some (.int (iI n)), a5, a6, a7] [] h Q := by
  obtain ⟨I, e1, e2, e3, e4⟩ := id E
  have kx := I.1.1.N
  have km := I.1.2.1.k
  refine PW.al rfl rfl ?_
  refine PW.sarg (j := 1) (v := S (n + 1)) rfl (by omega) hL e3 (e4 _ (by omega)) ?_
  refine PW.iv rfl rfl rfl kx.1 kx.2 (le_b rfl) (le_b rfl) ?_
  refine PW.kp e1 ?_
  refine p_order (hS _) hm I _ fun g1 v pv z zk M kp => ⟨rfl, ⟨z.1, ?_⟩, ?_⟩
  · obtain ⟨v0, rfl⟩ := pv
    rfl
  · obtain ⟨v0, rfl⟩ := pv
    show PW 140 282 555 [some (.ref zSC), some (.ref x), some (.ref m), some (.ref o), some (.int (iI n)), a5, a6, a7] [.int v0] g1 Q
    have n1 : zN g1 ≤ zSC := by rw [z.1]; exact e1
    refine PW.al rfl rfl ?_
    have f3 : zL g1 zSC = L := by rw [kp.2.2.1]; exact e3
    have f4 : ∀ k, k < L → zI g1 zSC k = iI (S k) := fun k hk => by rw [kp.2.1]; exact e4 k hk
    refine PW.sarg (j := 1) (v := S (n + 1)) rfl (by omega) hL f3 (f4 _ (by omega)) ?_
    refine PW.iv rfl rfl rfl (by rw [zk]; exact km.1) (by rw [z.1]; exact km.2) (le_b rfl) (le_b rfl) ?_
    refine PW.kp n1 ?_
    refine M _ fun g2 z2 I2 kp2 => ⟨rfl, ⟨z2.1, rfl⟩, ?_⟩
    show PW 140 282 562 [some (.ref zSC), some (.ref x), some (.ref m), some (.ref o), some (.int (iI n)), a5, a6, a7] [.int v0, .int v0] g2 Q
    refine PW.eqI rfl ?_
    have E2 := E.go (kp.tr kp2) (z.tr z2) I2
    exact K g2 _ _ _ ⟨E2.1, E2.2.1, ⟨by have := E2.2.2.1.1; omega, by have := E2.2.2.1.2; omega⟩, E2.2.2.2⟩
set_option maxRecDepth 20000 in
theorem lw_22 (E : LE h x m o L S c s) (hm : m = x + 161) (ho : o = x + 197) (hS : ∀ k, i32 (S k)) (hL : L ≤ 3072) (hn : n + 6 ≤ L) (K : ∀ g b5 b6 b7, LE g x m o L S (c + 1) (s + 6) → PW 140 282 806 [some (.ref zSC), some (.ref x), some (.ref m), some (.ref o), some (.int (iI n)), b5, b6, b7] [] g Q) : PW 140 282 565 [some (.ref zSC), some (.ref x), some (.ref m), some (.ref o), some (.int (iI n)), a5, a6, a7] [] h Q := by
  obtain ⟨I, e1, e2, e3, e4⟩ := id E
  have kx := I.1.1.N
  have km := I.1.2.1.k
  refine PW.al rfl rfl ?_
  refine PW.sarg (j := 1) (v := S (n + 1)) rfl (by omega) hL e3 (e4 _ (by omega)) ?_
  refine PW.sarg (j := 2) (v := S (n + 2)) rfl (by omega) hL e3 (e4 _ (by omega)) ?_
  refine PW.iv rfl rfl rfl kx.1 kx.2 (le_b rfl) (le_b rfl) ?_
  refine PW.kp e1 ?_
  refine p_placed (hS _) (hS _) hm I _ fun g1 v pv z zk M kp => ⟨rfl, ⟨z.1, ?_⟩, ?_⟩
  · obtain ⟨v0, rfl⟩ := pv
    rfl
  · obtain ⟨v0, rfl⟩ := pv
    show PW 140 282 577 [some (.ref zSC), some (.ref x), some (.ref m), some (.ref o), some (.int (iI n)), a5, a6, a7] [.int v0] g1 Q
    have n1 : zN g1 ≤ zSC := by rw [z.1]; exact e1
    refine PW.al rfl rfl ?_
    have f3 : zL g1 zSC = L := by rw [kp.2.2.1]; exact e3
    have f4 : ∀ k, k < L → zI g1 zSC k = iI (S k) := fun k hk => by rw [kp.2.1]; exact e4 k hk
    refine PW.sarg (j := 1) (v := S (n + 1)) rfl (by omega) hL f3 (f4 _ (by omega)) ?_
    refine PW.sarg (j := 2) (v := S (n + 2)) rfl (by omega) hL f3 (f4 _ (by omega)) ?_
    refine PW.iv rfl rfl rfl (by rw [zk]; exact km.1) (by rw [z.1]; exact km.2) (le_b rfl) (le_b rfl) ?_
    refine PW.kp n1 ?_
    refine M _ fun g2 z2 I2 kp2 => ⟨rfl, ⟨z2.1, rfl⟩, ?_⟩
    show PW 140 282 589 [some (.ref zSC), some (.ref x), some (.ref m), some (.ref o), some (.int (iI n)), a5, a6, a7] [.int v0, .int v0] g2 Q
    refine PW.eqI rfl ?_
    have E2 := E.go (kp.tr kp2) (z.tr z2) I2
    exact K g2 _ _ _ ⟨E2.1, E2.2.1, ⟨by have := E2.2.2.1.1; omega, by have := E2.2.2.1.2; omega⟩, E2.2.2.2⟩
set_option maxRecDepth 20000 in
theorem lw_23 (E : LE h x m o L S c s) (hm : m = x + 161) (ho : o = x + 197) (hS : ∀ k, i32 (S k)) (hL : L ≤ 3072) (hn : n + 6 ≤ L) (K : ∀ g b5 b6 b7, LE g x m o L S (c + 1) (s + 6) → PW 140 282 806 [some (.ref zSC), some (.ref x), some (.ref m), some (.ref o), some (.int (iI n)), b5, b6, b7] [] g Q) : PW 140 282 592 [some (.ref zSC), some (.ref x), some (.ref m), some (.ref o), some (.int (iI n)), a5, a6, a7] [] h Q := by
  obtain ⟨I, e1, e2, e3, e4⟩ := id E
  have kx := I.1.1.N
  have km := I.1.2.1.k
  refine PW.al rfl rfl ?_
  refine PW.sarg (j := 1) (v := S (n + 1)) rfl (by omega) hL e3 (e4 _ (by omega)) ?_
  refine PW.sarg (j := 2) (v := S (n + 2)) rfl (by omega) hL e3 (e4 _ (by omega)) ?_
  refine PW.sarg (j := 3) (v := S (n + 3)) rfl (by omega) hL e3 (e4 _ (by omega)) ?_
  refine PW.iv rfl rfl rfl kx.1 kx.2 (le_b rfl) (le_b rfl) ?_
  refine PW.kp e1 ?_
  refine p_firstWord (hS _) (hS _) (hS _) hm I _ fun g1 v pv z zk M kp => ⟨rfl, ⟨z.1, ?_⟩, ?_⟩
  · obtain ⟨v0, rfl⟩ := pv
    rfl
  · obtain ⟨v0, rfl⟩ := pv
    show PW 140 282 609 [some (.ref zSC), some (.ref x), some (.ref m), some (.ref o), some (.int (iI n)), a5, a6, a7] [.int v0] g1 Q
    have n1 : zN g1 ≤ zSC := by rw [z.1]; exact e1
    refine PW.al rfl rfl ?_
    have f3 : zL g1 zSC = L := by rw [kp.2.2.1]; exact e3
    have f4 : ∀ k, k < L → zI g1 zSC k = iI (S k) := fun k hk => by rw [kp.2.1]; exact e4 k hk
    refine PW.sarg (j := 1) (v := S (n + 1)) rfl (by omega) hL f3 (f4 _ (by omega)) ?_
    refine PW.sarg (j := 2) (v := S (n + 2)) rfl (by omega) hL f3 (f4 _ (by omega)) ?_
    refine PW.sarg (j := 3) (v := S (n + 3)) rfl (by omega) hL f3 (f4 _ (by omega)) ?_
    refine PW.iv rfl rfl rfl (by rw [zk]; exact km.1) (by rw [z.1]; exact km.2) (le_b rfl) (le_b rfl) ?_
    refine PW.kp n1 ?_
    refine M _ fun g2 z2 I2 kp2 => ⟨rfl, ⟨z2.1, rfl⟩, ?_⟩
    show PW 140 282 626 [some (.ref zSC), some (.ref x), some (.ref m), some (.ref o), some (.int (iI n)), a5, a6, a7] [.int v0, .int v0] g2 Q
    refine PW.eqI rfl ?_
    have E2 := E.go (kp.tr kp2) (z.tr z2) I2
    exact K g2 _ _ _ ⟨E2.1, E2.2.1, ⟨by have := E2.2.2.1.1; omega, by have := E2.2.2.1.2; omega⟩, E2.2.2.2⟩
set_option maxRecDepth 20000 in
theorem lw_24 (E : LE h x m o L S c s) (hm : m = x + 161) (ho : o = x + 197) (hS : ∀ k, i32 (S k)) (hL : L ≤ 3072) (hn : n + 6 ≤ L) (K : ∀ g b5 b6 b7, LE g x m o L S (c + 1) (s + 6) → PW 140 282 806 [some (.ref zSC), some (.ref x), some (.ref m), some (.ref o), some (.int (iI n)), b5, b6, b7] [] g Q) : PW 140 282 629 [some (.ref zSC), some (.ref x), some (.ref m), some (.ref o), some (.int (iI n)), a5, a6, a7] [] h Q := by
  obtain ⟨I, e1, e2, e3, e4⟩ := id E
  have kx := I.1.1.N
  have km := I.1.2.1.k
  refine PW.al rfl rfl ?_
  refine PW.sarg (j := 1) (v := S (n + 1)) rfl (by omega) hL e3 (e4 _ (by omega)) ?_
  refine PW.iv rfl rfl rfl kx.1 kx.2 (le_b rfl) (le_b rfl) ?_
  refine PW.kp e1 ?_
  refine p_laid (hS _) hm I _ fun g1 v pv z zk M kp => ⟨rfl, ⟨z.1, ?_⟩, ?_⟩
  · obtain ⟨v0, rfl⟩ := pv
    rfl
  · obtain ⟨v0, rfl⟩ := pv
    show PW 140 282 636 [some (.ref zSC), some (.ref x), some (.ref m), some (.ref o), some (.int (iI n)), a5, a6, a7] [.int v0] g1 Q
    have n1 : zN g1 ≤ zSC := by rw [z.1]; exact e1
    refine PW.al rfl rfl ?_
    have f3 : zL g1 zSC = L := by rw [kp.2.2.1]; exact e3
    have f4 : ∀ k, k < L → zI g1 zSC k = iI (S k) := fun k hk => by rw [kp.2.1]; exact e4 k hk
    refine PW.sarg (j := 1) (v := S (n + 1)) rfl (by omega) hL f3 (f4 _ (by omega)) ?_
    refine PW.iv rfl rfl rfl (by rw [zk]; exact km.1) (by rw [z.1]; exact km.2) (le_b rfl) (le_b rfl) ?_
    refine PW.kp n1 ?_
    refine M _ fun g2 z2 I2 kp2 => ⟨rfl, ⟨z2.1, rfl⟩, ?_⟩
    show PW 140 282 643 [some (.ref zSC), some (.ref x), some (.ref m), some (.ref o), some (.int (iI n)), a5, a6, a7] [.int v0, .int v0] g2 Q
    refine PW.eqI rfl ?_
    have E2 := E.go (kp.tr kp2) (z.tr z2) I2
    exact K g2 _ _ _ ⟨E2.1, E2.2.1, ⟨by have := E2.2.2.1.1; omega, by have := E2.2.2.1.2; omega⟩, E2.2.2.2⟩
set_option maxRecDepth 20000 in
theorem lw_25 (E : LE h x m o L S c s) (hm : m = x + 161) (ho : o = x + 197) (hS : ∀ k, i32 (S k)) (hL : L ≤ 3072) (hn : n + 6 ≤ L) (K : ∀ g b5 b6 b7, LE g x m o L S (c + 1) (s + 6) → PW 140 282 806 [some (.ref zSC), some (.ref x), some (.ref m), some (.ref o), some (.int (iI n)), b5, b6, b7] [] g Q) : PW 140 282 646 [some (.ref zSC), some (.ref x), some (.ref m), some (.ref o), some (.int (iI n)), a5, a6, a7] [] h Q := by
  obtain ⟨I, e1, e2, e3, e4⟩ := id E
  have kx := I.1.1.N
  have km := I.1.2.1.k
  refine PW.al rfl rfl ?_
  refine PW.sarg (j := 1) (v := S (n + 1)) rfl (by omega) hL e3 (e4 _ (by omega)) ?_
  refine PW.iv rfl rfl rfl kx.1 kx.2 (le_b rfl) (le_b rfl) ?_
  refine PW.kp e1 ?_
  refine p_letter (hS _) hm I _ fun g1 v pv z zk M kp => ⟨rfl, ⟨z.1, ?_⟩, ?_⟩
  · obtain ⟨v0, rfl⟩ := pv
    rfl
  · obtain ⟨v0, rfl⟩ := pv
    show PW 140 282 653 [some (.ref zSC), some (.ref x), some (.ref m), some (.ref o), some (.int (iI n)), a5, a6, a7] [.int v0] g1 Q
    have n1 : zN g1 ≤ zSC := by rw [z.1]; exact e1
    refine PW.al rfl rfl ?_
    have f3 : zL g1 zSC = L := by rw [kp.2.2.1]; exact e3
    have f4 : ∀ k, k < L → zI g1 zSC k = iI (S k) := fun k hk => by rw [kp.2.1]; exact e4 k hk
    refine PW.sarg (j := 1) (v := S (n + 1)) rfl (by omega) hL f3 (f4 _ (by omega)) ?_
    refine PW.iv rfl rfl rfl (by rw [zk]; exact km.1) (by rw [z.1]; exact km.2) (le_b rfl) (le_b rfl) ?_
    refine PW.kp n1 ?_
    refine M _ fun g2 z2 I2 kp2 => ⟨rfl, ⟨z2.1, rfl⟩, ?_⟩
    show PW 140 282 660 [some (.ref zSC), some (.ref x), some (.ref m), some (.ref o), some (.int (iI n)), a5, a6, a7] [.int v0, .int v0] g2 Q
    refine PW.eqI rfl ?_
    have E2 := E.go (kp.tr kp2) (z.tr z2) I2
    exact K g2 _ _ _ ⟨E2.1, E2.2.1, ⟨by have := E2.2.2.1.1; omega, by have := E2.2.2.1.2; omega⟩, E2.2.2.2⟩
set_option maxRecDepth 20000 in
theorem lw_26 (E : LE h x m o L S c s) (hm : m = x + 161) (ho : o = x + 197) (hS : ∀ k, i32 (S k)) (hL : L ≤ 3072) (hn : n + 6 ≤ L) (K : ∀ g b5 b6 b7, LE g x m o L S (c + 1) (s + 6) → PW 140 282 806 [some (.ref zSC), some (.ref x), some (.ref m), some (.ref o), some (.int (iI n)), b5, b6, b7] [] g Q) : PW 140 282 663 [some (.ref zSC), some (.ref x), some (.ref m), some (.ref o), some (.int (iI n)), a5, a6, a7] [] h Q := by
  obtain ⟨I, e1, e2, e3, e4⟩ := id E
  have kx := I.1.1.N
  have km := I.1.2.1.k
  refine PW.al rfl rfl ?_
  refine PW.iv rfl rfl rfl kx.1 kx.2 (le_b rfl) (le_b rfl) ?_
  refine PW.kp e1 ?_
  refine p_rolled hm I _ fun g1 v pv z zk M kp => ⟨rfl, ⟨z.1, ?_⟩, ?_⟩
  · obtain ⟨v0, rfl⟩ := pv
    rfl
  · obtain ⟨v0, rfl⟩ := pv
    show PW 140 282 665 [some (.ref zSC), some (.ref x), some (.ref m), some (.ref o), some (.int (iI n)), a5, a6, a7] [.int v0] g1 Q
    have n1 : zN g1 ≤ zSC := by rw [z.1]; exact e1
    refine PW.al rfl rfl ?_
    refine PW.iv rfl rfl rfl (by rw [zk]; exact km.1) (by rw [z.1]; exact km.2) (le_b rfl) (le_b rfl) ?_
    refine PW.kp n1 ?_
    refine M _ fun g2 z2 I2 kp2 => ⟨rfl, ⟨z2.1, rfl⟩, ?_⟩
    show PW 140 282 667 [some (.ref zSC), some (.ref x), some (.ref m), some (.ref o), some (.int (iI n)), a5, a6, a7] [.int v0, .int v0] g2 Q
    refine PW.eqI rfl ?_
    have E2 := E.go (kp.tr kp2) (z.tr z2) I2
    exact K g2 _ _ _ ⟨E2.1, E2.2.1, ⟨by have := E2.2.2.1.1; omega, by have := E2.2.2.1.2; omega⟩, E2.2.2.2⟩
set_option maxRecDepth 20000 in
theorem lw_27 (E : LE h x m o L S c s) (hm : m = x + 161) (ho : o = x + 197) (hS : ∀ k, i32 (S k)) (hL : L ≤ 3072) (hn : n + 6 ≤ L) (K : ∀ g b5 b6 b7, LE g x m o L S (c + 1) (s + 6) → PW 140 282 806 [some (.ref zSC), some (.ref x), some (.ref m), some (.ref o), some (.int (iI n)), b5, b6, b7] [] g Q) : PW 140 282 670 [some (.ref zSC), some (.ref x), some (.ref m), some (.ref o), some (.int (iI n)), a5, a6, a7] [] h Q := by
  obtain ⟨I, e1, e2, e3, e4⟩ := id E
  have kx := I.1.1.N
  have km := I.1.2.1.k
  refine PW.al rfl rfl ?_
  refine PW.sarg (j := 1) (v := S (n + 1)) rfl (by omega) hL e3 (e4 _ (by omega)) ?_
  refine PW.iv rfl rfl rfl kx.1 kx.2 (le_b rfl) (le_b rfl) ?_
  refine PW.kp e1 ?_
  refine p_rolledBy (hS _) hm I _ fun g1 v pv z zk M kp => ⟨rfl, ⟨z.1, ?_⟩, ?_⟩
  · obtain ⟨v0, rfl⟩ := pv
    rfl
  · obtain ⟨v0, rfl⟩ := pv
    show PW 140 282 677 [some (.ref zSC), some (.ref x), some (.ref m), some (.ref o), some (.int (iI n)), a5, a6, a7] [.long v0] g1 Q
    have n1 : zN g1 ≤ zSC := by rw [z.1]; exact e1
    refine PW.al rfl rfl ?_
    have f3 : zL g1 zSC = L := by rw [kp.2.2.1]; exact e3
    have f4 : ∀ k, k < L → zI g1 zSC k = iI (S k) := fun k hk => by rw [kp.2.1]; exact e4 k hk
    refine PW.sarg (j := 1) (v := S (n + 1)) rfl (by omega) hL f3 (f4 _ (by omega)) ?_
    refine PW.iv rfl rfl rfl (by rw [zk]; exact km.1) (by rw [z.1]; exact km.2) (le_b rfl) (le_b rfl) ?_
    refine PW.kp n1 ?_
    refine M _ fun g2 z2 I2 kp2 => ⟨rfl, ⟨z2.1, rfl⟩, ?_⟩
    show PW 140 282 684 [some (.ref zSC), some (.ref x), some (.ref m), some (.ref o), some (.int (iI n)), a5, a6, a7] [.long v0, .long v0] g2 Q
    refine PW.eqL rfl rfl ?_
    have E2 := E.go (kp.tr kp2) (z.tr z2) I2
    exact K g2 _ _ _ ⟨E2.1, E2.2.1, ⟨by have := E2.2.2.1.1; omega, by have := E2.2.2.1.2; omega⟩, E2.2.2.2⟩
set_option maxRecDepth 20000 in
theorem lw_28 (E : LE h x m o L S c s) (hm : m = x + 161) (ho : o = x + 197) (hS : ∀ k, i32 (S k)) (hL : L ≤ 3072) (hn : n + 6 ≤ L) (K : ∀ g b5 b6 b7, LE g x m o L S (c + 1) (s + 6) → PW 140 282 806 [some (.ref zSC), some (.ref x), some (.ref m), some (.ref o), some (.int (iI n)), b5, b6, b7] [] g Q) : PW 140 282 688 [some (.ref zSC), some (.ref x), some (.ref m), some (.ref o), some (.int (iI n)), a5, a6, a7] [] h Q := by
  obtain ⟨I, e1, e2, e3, e4⟩ := id E
  have kx := I.1.1.N
  have km := I.1.2.1.k
  refine PW.al rfl rfl ?_
  refine PW.sarg (j := 1) (v := S (n + 1)) rfl (by omega) hL e3 (e4 _ (by omega)) ?_
  refine PW.sarg (j := 2) (v := S (n + 2)) rfl (by omega) hL e3 (e4 _ (by omega)) ?_
  refine PW.iv rfl rfl rfl kx.1 kx.2 (le_b rfl) (le_b rfl) ?_
  refine PW.kp e1 ?_
  refine p_meets (hS _) (hS _) hm I _ fun g1 v pv z zk M kp => ⟨rfl, ⟨z.1, ?_⟩, ?_⟩
  · obtain ⟨v0, rfl⟩ := pv
    rfl
  · obtain ⟨v0, rfl⟩ := pv
    show PW 140 282 700 [some (.ref zSC), some (.ref x), some (.ref m), some (.ref o), some (.int (iI n)), a5, a6, a7] [.long v0] g1 Q
    have n1 : zN g1 ≤ zSC := by rw [z.1]; exact e1
    refine PW.al rfl rfl ?_
    have f3 : zL g1 zSC = L := by rw [kp.2.2.1]; exact e3
    have f4 : ∀ k, k < L → zI g1 zSC k = iI (S k) := fun k hk => by rw [kp.2.1]; exact e4 k hk
    refine PW.sarg (j := 1) (v := S (n + 1)) rfl (by omega) hL f3 (f4 _ (by omega)) ?_
    refine PW.sarg (j := 2) (v := S (n + 2)) rfl (by omega) hL f3 (f4 _ (by omega)) ?_
    refine PW.iv rfl rfl rfl (by rw [zk]; exact km.1) (by rw [z.1]; exact km.2) (le_b rfl) (le_b rfl) ?_
    refine PW.kp n1 ?_
    refine M _ fun g2 z2 I2 kp2 => ⟨rfl, ⟨z2.1, rfl⟩, ?_⟩
    show PW 140 282 712 [some (.ref zSC), some (.ref x), some (.ref m), some (.ref o), some (.int (iI n)), a5, a6, a7] [.long v0, .long v0] g2 Q
    refine PW.eqL rfl rfl ?_
    have E2 := E.go (kp.tr kp2) (z.tr z2) I2
    exact K g2 _ _ _ ⟨E2.1, E2.2.1, ⟨by have := E2.2.2.1.1; omega, by have := E2.2.2.1.2; omega⟩, E2.2.2.2⟩
set_option maxRecDepth 20000 in
theorem lw_29 (E : LE h x m o L S c s) (hm : m = x + 161) (ho : o = x + 197) (hS : ∀ k, i32 (S k)) (hL : L ≤ 3072) (hn : n + 6 ≤ L) (K : ∀ g b5 b6 b7, LE g x m o L S (c + 1) (s + 6) → PW 140 282 806 [some (.ref zSC), some (.ref x), some (.ref m), some (.ref o), some (.int (iI n)), b5, b6, b7] [] g Q) : PW 140 282 716 [some (.ref zSC), some (.ref x), some (.ref m), some (.ref o), some (.int (iI n)), a5, a6, a7] [] h Q := by
  obtain ⟨I, e1, e2, e3, e4⟩ := id E
  have kx := I.1.1.N
  have km := I.1.2.1.k
  refine PW.al rfl rfl ?_
  refine PW.sarg (j := 1) (v := S (n + 1)) rfl (by omega) hL e3 (e4 _ (by omega)) ?_
  refine PW.sarg (j := 2) (v := S (n + 2)) rfl (by omega) hL e3 (e4 _ (by omega)) ?_
  refine PW.iv rfl rfl rfl kx.1 kx.2 (le_b rfl) (le_b rfl) ?_
  refine PW.kp e1 ?_
  refine p_apart (hS _) (hS _) hm I _ fun g1 v pv z zk M kp => ⟨rfl, ⟨z.1, ?_⟩, ?_⟩
  · obtain ⟨v0, rfl⟩ := pv
    rfl
  · obtain ⟨v0, rfl⟩ := pv
    show PW 140 282 728 [some (.ref zSC), some (.ref x), some (.ref m), some (.ref o), some (.int (iI n)), a5, a6, a7] [.long v0] g1 Q
    have n1 : zN g1 ≤ zSC := by rw [z.1]; exact e1
    refine PW.al rfl rfl ?_
    have f3 : zL g1 zSC = L := by rw [kp.2.2.1]; exact e3
    have f4 : ∀ k, k < L → zI g1 zSC k = iI (S k) := fun k hk => by rw [kp.2.1]; exact e4 k hk
    refine PW.sarg (j := 1) (v := S (n + 1)) rfl (by omega) hL f3 (f4 _ (by omega)) ?_
    refine PW.sarg (j := 2) (v := S (n + 2)) rfl (by omega) hL f3 (f4 _ (by omega)) ?_
    refine PW.iv rfl rfl rfl (by rw [zk]; exact km.1) (by rw [z.1]; exact km.2) (le_b rfl) (le_b rfl) ?_
    refine PW.kp n1 ?_
    refine M _ fun g2 z2 I2 kp2 => ⟨rfl, ⟨z2.1, rfl⟩, ?_⟩
    show PW 140 282 740 [some (.ref zSC), some (.ref x), some (.ref m), some (.ref o), some (.int (iI n)), a5, a6, a7] [.long v0, .long v0] g2 Q
    refine PW.eqL rfl rfl ?_
    have E2 := E.go (kp.tr kp2) (z.tr z2) I2
    exact K g2 _ _ _ ⟨E2.1, E2.2.1, ⟨by have := E2.2.2.1.1; omega, by have := E2.2.2.1.2; omega⟩, E2.2.2.2⟩
set_option maxRecDepth 20000 in
theorem lw_30 (E : LE h x m o L S c s) (hm : m = x + 161) (ho : o = x + 197) (hS : ∀ k, i32 (S k)) (hL : L ≤ 3072) (hn : n + 6 ≤ L) (K : ∀ g b5 b6 b7, LE g x m o L S (c + 1) (s + 6) → PW 140 282 806 [some (.ref zSC), some (.ref x), some (.ref m), some (.ref o), some (.int (iI n)), b5, b6, b7] [] g Q) : PW 140 282 744 [some (.ref zSC), some (.ref x), some (.ref m), some (.ref o), some (.int (iI n)), a5, a6, a7] [] h Q := by
  obtain ⟨I, e1, e2, e3, e4⟩ := id E
  have kx := I.1.1.N
  have km := I.1.2.1.k
  refine PW.al rfl rfl ?_
  refine PW.sarg (j := 1) (v := S (n + 1)) rfl (by omega) hL e3 (e4 _ (by omega)) ?_
  refine PW.sarg (j := 2) (v := S (n + 2)) rfl (by omega) hL e3 (e4 _ (by omega)) ?_
  refine PW.al rfl rfl ?_
  have ko : zK h o = 15 ∧ o < zN h ∧ zL h o = 1 := ⟨I.1.2.2.2.1, I.1.2.2.2.2.2, I.1.2.2.2.2.1⟩
  obtain ⟨r, hD, hN, hV⟩ := p_shift (hS _) (hS _) hm ho I
  refine PW.ss (a := [.ref x, .int (iI (S (n + 1))), .int (iI (S (n + 2))), .ref o]) (r := []) rfl (le_b rfl) rfl rfl (le_b rfl) (le_b rfl) ?_
  refine PW.kp e1 ?_
  refine t_L_shift ⟨kx, ko⟩ hD (fun er kp => ⟨rfl, ⟨rfl, rfl⟩, ?_⟩) fun v0 er kp => ⟨rfl, ⟨rfl, rfl⟩, ?_⟩
  · show PW 140 282 757 [some (.ref zSC), some (.ref x), some (.ref m), some (.ref o), some (.int (iI n)), a5, a6, a7] [.int (iI 1)] (zThr h) Q
    have n1 : zN (zThr h) ≤ zSC := e1
    have f3 : zL (zThr h) zSC = L := e3
    have f4 : ∀ k, k < L → zI (zThr h) zSC k = iI (S k) := e4
    have k1 : zK (zThr h) = zK h := rfl
    have k2 : zN (zThr h) = zN h := rfl
    refine vs_ok 1 ?_
    rw [show ((gRes 282).drop 757).take 1 = [.istore 5] from rfl]
    simp (disch := omega) only [vs_istore5n, vs_istore5i, vs_istore5r, vs_istore5l, vs_nil, gv_0, gv_1, gv_2, gv_3, pv_0, pv_1, va_rf_s, Nat.reduceDiv, Nat.reduceMod, Nat.reduceAdd, Nat.reduceMul, Int.reduceToNat, true_and, and_true, and_self, cP_eq, cP_ne, cP_lt, cP_ge, cP_gt, cP_le, eL_i, eL_l, eL_r, eL_n, Option.toList_none, Option.toList_some, List.nil_append, List.cons_append, kkI, llI, nnI, rrI, jjI, kkJ, llJ, nnJ, rrJ, iiJ, zIIs, zJJs, nEF, nET, and_false, false_and, jmin, jmax, catS_n, catS_i, catS_r, catS_l, Nat.reduceLeDiff, j1eq1, n21, jt0, jt1, Bool.false_eq_true, Classical.not_not, true_or, or_true, false_or, or_false, true_imp_iff, false_imp_iff, not_true_eq_false, not_false_eq_true, jif0, jif1, jifb, ltT, ltF, leT, leF, eqT, eqF, jlt, jle, jeq, jlt0, jle0, jeq0, jge0, jgt0, jinB, jnat, clt, cle, ceq, cgt, cge, lI_add, lI_sub, lI_mul, jadd, jsub, jmul, jneg, jtol, b010, b011, pv_2t, Int.toNat_natCast, Option.some.injEq, exists_eq_left', if_true, if_false]
    refine PW.al rfl rfl ?_
    refine PW.sarg (j := 1) (v := S (n + 1)) rfl (by omega) hL f3 (f4 _ (by omega)) ?_
    refine PW.sarg (j := 2) (v := S (n + 2)) rfl (by omega) hL f3 (f4 _ (by omega)) ?_
    refine PW.iv rfl rfl rfl km.1 km.2 (le_b rfl) (le_b rfl) ?_
    refine PW.kp n1 ?_
    refine hN er _ fun g2 v2 z2 zk I2 t1 pv kp2 => ⟨rfl, ⟨z2.1, ?_⟩, ?_⟩
    · obtain ⟨v0, rfl⟩ := pv
      rfl
    obtain ⟨v0, rfl⟩ := pv
    show PW 140 282 770 [some (.ref zSC), some (.ref x), some (.ref m), some (.ref o), some (.int (iI n)), some (.int (iI 1)), a6, a7] [.int v0] g2 Q
    refine vs_ok 1 ?_
    rw [show ((gRes 282).drop 770).take 1 = [.istore 6] from rfl]
    simp (disch := omega) only [vs_istore6n, vs_istore6i, vs_istore6r, vs_istore6l, vs_nil, gv_0, gv_1, gv_2, gv_3, pv_0, pv_1, va_rf_s, Nat.reduceDiv, Nat.reduceMod, Nat.reduceAdd, Nat.reduceMul, Int.reduceToNat, true_and, and_true, and_self, cP_eq, cP_ne, cP_lt, cP_ge, cP_gt, cP_le, eL_i, eL_l, eL_r, eL_n, Option.toList_none, Option.toList_some, List.nil_append, List.cons_append, kkI, llI, nnI, rrI, jjI, kkJ, llJ, nnJ, rrJ, iiJ, zIIs, zJJs, nEF, nET, and_false, false_and, jmin, jmax, catS_n, catS_i, catS_r, catS_l, Nat.reduceLeDiff, j1eq1, n21, jt0, jt1, Bool.false_eq_true, Classical.not_not, true_or, or_true, false_or, or_false, true_imp_iff, false_imp_iff, not_true_eq_false, not_false_eq_true, jif0, jif1, jifb, ltT, ltF, leT, leF, eqT, eqF, jlt, jle, jeq, jlt0, jle0, jeq0, jge0, jgt0, jinB, jnat, clt, cle, ceq, cgt, cge, lI_add, lI_sub, lI_mul, jadd, jsub, jmul, jneg, jtol, b010, b011, pv_2t, Int.toNat_natCast, Option.some.injEq, exists_eq_left', if_true, if_false]
    have ko2 : zK g2 o = 15 ∧ o < zN g2 ∧ zL g2 o = 1 := ⟨I2.1.2.2.2.1, I2.1.2.2.2.2.2, I2.1.2.2.2.2.1⟩
    have E2 : LE g2 x m o L S (c + 1) (s + 6) := ⟨I2, by rw [z2.1]; exact n1, ⟨by rw [z2.2.1]; show zC h + 1 ≤ c + 1; omega, by rw [z2.2.2]; show zS h + 6 ≤ s + 6; omega⟩, by rw [kp2.2.2.1]; exact f3, fun k hk => by rw [kp2.2.1]; exact f4 k hk⟩
    refine PW.al rfl rfl ?_
    refine PW.iv rfl rfl rfl (by rw [zk]; exact km.1) (by rw [z2.1]; exact km.2) (le_b rfl) (le_b rfl) ?_
    refine t_M_thrown I2.1.2.1 t1 ⟨rfl, ⟨rfl, rfl⟩, ?_⟩
    show PW 140 282 773 [some (.ref zSC), some (.ref x), some (.ref m), some (.ref o), some (.int (iI n)), some (.int (iI 1)), some (.int v0), a7] [.int (iI 1)] g2 Q
    refine PW.il rfl rfl ?_
    refine PW.eqI rfl ?_
    show PW 140 282 777 [some (.ref zSC), some (.ref x), some (.ref m), some (.ref o), some (.int (iI n)), some (.int (iI 1)), some (.int v0), a7] [] g2 Q
    refine vs_ok 2 ?_
    rw [show ((gRes 282).drop 777).take 2 = [.iload 5, .ifCond .ne 788] from rfl]
    simp (disch := omega) only [vs_ifCond, vs_iload5, vs_nil, gv_0, gv_1, gv_2, gv_3, pv_0, pv_1, va_rf_s, Nat.reduceDiv, Nat.reduceMod, Nat.reduceAdd, Nat.reduceMul, Int.reduceToNat, true_and, and_true, and_self, cP_eq, cP_ne, cP_lt, cP_ge, cP_gt, cP_le, eL_i, eL_l, eL_r, eL_n, Option.toList_none, Option.toList_some, List.nil_append, List.cons_append, kkI, llI, nnI, rrI, jjI, kkJ, llJ, nnJ, rrJ, iiJ, zIIs, zJJs, nEF, nET, and_false, false_and, jmin, jmax, catS_n, catS_i, catS_r, catS_l, Nat.reduceLeDiff, j1eq1, n21, jt0, jt1, Bool.false_eq_true, Classical.not_not, true_or, or_true, false_or, or_false, true_imp_iff, false_imp_iff, not_true_eq_false, not_false_eq_true, jif0, jif1, jifb, ltT, ltF, leT, leF, eqT, eqF, jlt, jle, jeq, jlt0, jle0, jeq0, jge0, jgt0, jinB, jnat, clt, cle, ceq, cgt, cge, lI_add, lI_sub, lI_mul, jadd, jsub, jmul, jneg, jtol, b010, b011, pv_2t, Int.toNat_natCast, Option.some.injEq, exists_eq_left', if_true, if_false]
    refine vs_ok 1 ?_
    rw [show ((gRes 282).drop 788).take 1 = [.goto 806] from rfl]
    simp (disch := omega) only [vs_goto, vs_nil, gv_0, gv_1, gv_2, gv_3, pv_0, pv_1, va_rf_s, Nat.reduceDiv, Nat.reduceMod, Nat.reduceAdd, Nat.reduceMul, Int.reduceToNat, true_and, and_true, and_self, cP_eq, cP_ne, cP_lt, cP_ge, cP_gt, cP_le, eL_i, eL_l, eL_r, eL_n, Option.toList_none, Option.toList_some, List.nil_append, List.cons_append, kkI, llI, nnI, rrI, jjI, kkJ, llJ, nnJ, rrJ, iiJ, zIIs, zJJs, nEF, nET, and_false, false_and, jmin, jmax, catS_n, catS_i, catS_r, catS_l, Nat.reduceLeDiff, j1eq1, n21, jt0, jt1, Bool.false_eq_true, Classical.not_not, true_or, or_true, false_or, or_false, true_imp_iff, false_imp_iff, not_true_eq_false, not_false_eq_true, jif0, jif1, jifb, ltT, ltF, leT, leF, eqT, eqF, jlt, jle, jeq, jlt0, jle0, jeq0, jge0, jgt0, jinB, jnat, clt, cle, ceq, cgt, cge, lI_add, lI_sub, lI_mul, jadd, jsub, jmul, jneg, jtol, b010, b011, pv_2t, Int.toNat_natCast, Option.some.injEq, exists_eq_left', if_true, if_false]
    exact K g2 _ _ _ E2
  · show PW 140 282 757 [some (.ref zSC), some (.ref x), some (.ref m), some (.ref o), some (.int (iI n)), a5, a6, a7] [.int (iI 0)] (zsJ h o 0 v0.toInt64) Q
    have n1 : zN (zsJ h o 0 v0.toInt64) ≤ zSC := e1
    have f3 : zL (zsJ h o 0 v0.toInt64) zSC = L := e3
    have f4 : ∀ k, k < L → zI (zsJ h o 0 v0.toInt64) zSC k = iI (S k) := e4
    have k1 : zK (zsJ h o 0 v0.toInt64) = zK h := rfl
    have k2 : zN (zsJ h o 0 v0.toInt64) = zN h := rfl
    refine vs_ok 1 ?_
    rw [show ((gRes 282).drop 757).take 1 = [.istore 5] from rfl]
    simp (disch := omega) only [vs_istore5n, vs_istore5i, vs_istore5r, vs_istore5l, vs_nil, gv_0, gv_1, gv_2, gv_3, pv_0, pv_1, va_rf_s, Nat.reduceDiv, Nat.reduceMod, Nat.reduceAdd, Nat.reduceMul, Int.reduceToNat, true_and, and_true, and_self, cP_eq, cP_ne, cP_lt, cP_ge, cP_gt, cP_le, eL_i, eL_l, eL_r, eL_n, Option.toList_none, Option.toList_some, List.nil_append, List.cons_append, kkI, llI, nnI, rrI, jjI, kkJ, llJ, nnJ, rrJ, iiJ, zIIs, zJJs, nEF, nET, and_false, false_and, jmin, jmax, catS_n, catS_i, catS_r, catS_l, Nat.reduceLeDiff, j1eq1, n21, jt0, jt1, Bool.false_eq_true, Classical.not_not, true_or, or_true, false_or, or_false, true_imp_iff, false_imp_iff, not_true_eq_false, not_false_eq_true, jif0, jif1, jifb, ltT, ltF, leT, leF, eqT, eqF, jlt, jle, jeq, jlt0, jle0, jeq0, jge0, jgt0, jinB, jnat, clt, cle, ceq, cgt, cge, lI_add, lI_sub, lI_mul, jadd, jsub, jmul, jneg, jtol, b010, b011, pv_2t, Int.toNat_natCast, Option.some.injEq, exists_eq_left', if_true, if_false]
    refine PW.al rfl rfl ?_
    refine PW.sarg (j := 1) (v := S (n + 1)) rfl (by omega) hL f3 (f4 _ (by omega)) ?_
    refine PW.sarg (j := 2) (v := S (n + 2)) rfl (by omega) hL f3 (f4 _ (by omega)) ?_
    refine PW.iv rfl rfl rfl km.1 km.2 (le_b rfl) (le_b rfl) ?_
    refine PW.kp n1 ?_
    refine hV _ er ⟨_, rfl⟩ _ _ fun g2 z2 zk I2 t1 o1 o2 kp2 => ⟨rfl, ⟨z2.1, rfl⟩, ?_⟩
    show PW 140 282 770 [some (.ref zSC), some (.ref x), some (.ref m), some (.ref o), some (.int (iI n)), some (.int (iI 0)), a6, a7] [.int v0] g2 Q
    refine vs_ok 1 ?_
    rw [show ((gRes 282).drop 770).take 1 = [.istore 6] from rfl]
    simp (disch := omega) only [vs_istore6n, vs_istore6i, vs_istore6r, vs_istore6l, vs_nil, gv_0, gv_1, gv_2, gv_3, pv_0, pv_1, va_rf_s, Nat.reduceDiv, Nat.reduceMod, Nat.reduceAdd, Nat.reduceMul, Int.reduceToNat, true_and, and_true, and_self, cP_eq, cP_ne, cP_lt, cP_ge, cP_gt, cP_le, eL_i, eL_l, eL_r, eL_n, Option.toList_none, Option.toList_some, List.nil_append, List.cons_append, kkI, llI, nnI, rrI, jjI, kkJ, llJ, nnJ, rrJ, iiJ, zIIs, zJJs, nEF, nET, and_false, false_and, jmin, jmax, catS_n, catS_i, catS_r, catS_l, Nat.reduceLeDiff, j1eq1, n21, jt0, jt1, Bool.false_eq_true, Classical.not_not, true_or, or_true, false_or, or_false, true_imp_iff, false_imp_iff, not_true_eq_false, not_false_eq_true, jif0, jif1, jifb, ltT, ltF, leT, leF, eqT, eqF, jlt, jle, jeq, jlt0, jle0, jeq0, jge0, jgt0, jinB, jnat, clt, cle, ceq, cgt, cge, lI_add, lI_sub, lI_mul, jadd, jsub, jmul, jneg, jtol, b010, b011, pv_2t, Int.toNat_natCast, Option.some.injEq, exists_eq_left', if_true, if_false]
    have ko2 : zK g2 o = 15 ∧ o < zN g2 ∧ zL g2 o = 1 := ⟨I2.1.2.2.2.1, I2.1.2.2.2.2.2, I2.1.2.2.2.2.1⟩
    have E2 : LE g2 x m o L S (c + 1) (s + 6) := ⟨I2, by rw [z2.1]; exact n1, ⟨by rw [z2.2.1]; show zC h ≤ c + 1; omega, by rw [z2.2.2]; show zS h ≤ s + 6; omega⟩, by rw [kp2.2.2.1]; exact f3, fun k hk => by rw [kp2.2.1]; exact f4 k hk⟩
    refine PW.al rfl rfl ?_
    refine PW.iv rfl rfl rfl (by rw [zk]; exact km.1) (by rw [z2.1]; exact km.2) (le_b rfl) (le_b rfl) ?_
    refine t_M_thrown I2.1.2.1 t1 ⟨rfl, ⟨rfl, rfl⟩, ?_⟩
    show PW 140 282 773 [some (.ref zSC), some (.ref x), some (.ref m), some (.ref o), some (.int (iI n)), some (.int (iI 0)), some (.int v0), a7] [.int (iI 0)] g2 Q
    refine PW.il rfl rfl ?_
    refine PW.eqI rfl ?_
    show PW 140 282 777 [some (.ref zSC), some (.ref x), some (.ref m), some (.ref o), some (.int (iI n)), some (.int (iI 0)), some (.int v0), a7] [] g2 Q
    refine vs_ok 2 ?_
    rw [show ((gRes 282).drop 777).take 2 = [.iload 5, .ifCond .ne 788] from rfl]
    simp (disch := omega) only [vs_ifCond, vs_iload5, vs_nil, gv_0, gv_1, gv_2, gv_3, pv_0, pv_1, va_rf_s, Nat.reduceDiv, Nat.reduceMod, Nat.reduceAdd, Nat.reduceMul, Int.reduceToNat, true_and, and_true, and_self, cP_eq, cP_ne, cP_lt, cP_ge, cP_gt, cP_le, eL_i, eL_l, eL_r, eL_n, Option.toList_none, Option.toList_some, List.nil_append, List.cons_append, kkI, llI, nnI, rrI, jjI, kkJ, llJ, nnJ, rrJ, iiJ, zIIs, zJJs, nEF, nET, and_false, false_and, jmin, jmax, catS_n, catS_i, catS_r, catS_l, Nat.reduceLeDiff, j1eq1, n21, jt0, jt1, Bool.false_eq_true, Classical.not_not, true_or, or_true, false_or, or_false, true_imp_iff, false_imp_iff, not_true_eq_false, not_false_eq_true, jif0, jif1, jifb, ltT, ltF, leT, leF, eqT, eqF, jlt, jle, jeq, jlt0, jle0, jeq0, jge0, jgt0, jinB, jnat, clt, cle, ceq, cgt, cge, lI_add, lI_sub, lI_mul, jadd, jsub, jmul, jneg, jtol, b010, b011, pv_2t, Int.toNat_natCast, Option.some.injEq, exists_eq_left', if_true, if_false]
    refine vs_ok 5 ?_
    rw [show ((gRes 282).drop 779).take 5 = [.aload 3, .iconst 0, .laload, .iload 6, .i2l] from rfl]
    simp (disch := omega) only [vs_i2l, vs_iconst, vs_laload, vs_aload3, vs_iload6, vs_nil, gv_0, gv_1, gv_2, gv_3, pv_0, pv_1, va_rf_s, Nat.reduceDiv, Nat.reduceMod, Nat.reduceAdd, Nat.reduceMul, Int.reduceToNat, true_and, and_true, and_self, cP_eq, cP_ne, cP_lt, cP_ge, cP_gt, cP_le, eL_i, eL_l, eL_r, eL_n, Option.toList_none, Option.toList_some, List.nil_append, List.cons_append, kkI, llI, nnI, rrI, jjI, kkJ, llJ, nnJ, rrJ, iiJ, zIIs, zJJs, nEF, nET, and_false, false_and, jmin, jmax, catS_n, catS_i, catS_r, catS_l, Nat.reduceLeDiff, j1eq1, n21, jt0, jt1, Bool.false_eq_true, Classical.not_not, true_or, or_true, false_or, or_false, true_imp_iff, false_imp_iff, not_true_eq_false, not_false_eq_true, jif0, jif1, jifb, ltT, ltF, leT, leF, eqT, eqF, jlt, jle, jeq, jlt0, jle0, jeq0, jge0, jgt0, jinB, jnat, clt, cle, ceq, cgt, cge, lI_add, lI_sub, lI_mul, jadd, jsub, jmul, jneg, jtol, b010, b011, pv_2t, Int.toNat_natCast, Option.some.injEq, exists_eq_left', if_true, if_false, ko2, o1]
    refine PW.eqL rfl rfl ?_
    show PW 140 282 788 [some (.ref zSC), some (.ref x), some (.ref m), some (.ref o), some (.int (iI n)), some (.int (iI 0)), some (.int v0), a7] [] g2 Q
    refine vs_ok 1 ?_
    rw [show ((gRes 282).drop 788).take 1 = [.goto 806] from rfl]
    simp (disch := omega) only [vs_goto, vs_nil, gv_0, gv_1, gv_2, gv_3, pv_0, pv_1, va_rf_s, Nat.reduceDiv, Nat.reduceMod, Nat.reduceAdd, Nat.reduceMul, Int.reduceToNat, true_and, and_true, and_self, cP_eq, cP_ne, cP_lt, cP_ge, cP_gt, cP_le, eL_i, eL_l, eL_r, eL_n, Option.toList_none, Option.toList_some, List.nil_append, List.cons_append, kkI, llI, nnI, rrI, jjI, kkJ, llJ, nnJ, rrJ, iiJ, zIIs, zJJs, nEF, nET, and_false, false_and, jmin, jmax, catS_n, catS_i, catS_r, catS_l, Nat.reduceLeDiff, j1eq1, n21, jt0, jt1, Bool.false_eq_true, Classical.not_not, true_or, or_true, false_or, or_false, true_imp_iff, false_imp_iff, not_true_eq_false, not_false_eq_true, jif0, jif1, jifb, ltT, ltF, leT, leF, eqT, eqF, jlt, jle, jeq, jlt0, jle0, jeq0, jge0, jgt0, jinB, jnat, clt, cle, ceq, cgt, cge, lI_add, lI_sub, lI_mul, jadd, jsub, jmul, jneg, jtol, b010, b011, pv_2t, Int.toNat_natCast, Option.some.injEq, exists_eq_left', if_true, if_false]
    exact K g2 _ _ _ E2
set_option maxRecDepth 20000 in
theorem lw_31 (E : LE h x m o L S c s) (hm : m = x + 161) (ho : o = x + 197) (hS : ∀ k, i32 (S k)) (hL : L ≤ 3072) (hn : n + 6 ≤ L) (K : ∀ g b5 b6 b7, LE g x m o L S (c + 1) (s + 6) → PW 140 282 806 [some (.ref zSC), some (.ref x), some (.ref m), some (.ref o), some (.int (iI n)), b5, b6, b7] [] g Q) : PW 140 282 789 [some (.ref zSC), some (.ref x), some (.ref m), some (.ref o), some (.int (iI n)), a5, a6, a7] [] h Q := by
  obtain ⟨I, e1, e2, e3, e4⟩ := id E
  have kx := I.1.1.N
  have km := I.1.2.1.k
  refine PW.al rfl rfl ?_
  refine PW.sarg (j := 1) (v := S (n + 1)) rfl (by omega) hL e3 (e4 _ (by omega)) ?_
  refine PW.iv rfl rfl rfl kx.1 kx.2 (le_b rfl) (le_b rfl) ?_
  refine PW.kp e1 ?_
  refine p_count (hS _) hm I _ fun g1 v pv z zk M kp => ⟨rfl, ⟨z.1, ?_⟩, ?_⟩
  · obtain ⟨v0, rfl⟩ := pv
    rfl
  · obtain ⟨v0, rfl⟩ := pv
    show PW 140 282 796 [some (.ref zSC), some (.ref x), some (.ref m), some (.ref o), some (.int (iI n)), a5, a6, a7] [.int v0] g1 Q
    have n1 : zN g1 ≤ zSC := by rw [z.1]; exact e1
    refine PW.al rfl rfl ?_
    have f3 : zL g1 zSC = L := by rw [kp.2.2.1]; exact e3
    have f4 : ∀ k, k < L → zI g1 zSC k = iI (S k) := fun k hk => by rw [kp.2.1]; exact e4 k hk
    refine PW.sarg (j := 1) (v := S (n + 1)) rfl (by omega) hL f3 (f4 _ (by omega)) ?_
    refine PW.iv rfl rfl rfl (by rw [zk]; exact km.1) (by rw [z.1]; exact km.2) (le_b rfl) (le_b rfl) ?_
    refine PW.kp n1 ?_
    refine M _ fun g2 z2 I2 kp2 => ⟨rfl, ⟨z2.1, rfl⟩, ?_⟩
    show PW 140 282 803 [some (.ref zSC), some (.ref x), some (.ref m), some (.ref o), some (.int (iI n)), a5, a6, a7] [.int v0, .int v0] g2 Q
    refine PW.eqI rfl ?_
    have E2 := E.go (kp.tr kp2) (z.tr z2) I2
    exact K g2 _ _ _ ⟨E2.1, E2.2.1, ⟨by have := E2.2.2.1.1; omega, by have := E2.2.2.1.2; omega⟩, E2.2.2.2⟩
end LAW2
