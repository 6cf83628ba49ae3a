/-! FaceSearch: walk -/
theorem up_self {F : Nat → Nat} {k : Nat} (h : F k = 0) : upN F k 0 = F := by
  funext i
  show (if i = k then 0 else F i) = F i
  split
  · rename_i c
    rw [c, h]
  · rfl
abbrev fsA (x : Nat) : Nat → Prop := fun q => x ≤ q ∧ q ≤ x + 8
theorem t_node {D : Nat} {h : Hp} {x p q dp : Nat} {c : Nat → Int} {J : List Pth → Hp → Prop} {Q : Nat → Option Value → Hp → Prop} (hc : cOK c) (hp : p ≤ 64) (hq64 : q ≤ 64) (hdp : dp ≤ 60)
    (hJ : ∀ L g g2, J L g → fi (seS x) g g2 → (∀ i, i ≠ 10 → i ≠ 11 → zI g2 x i = zI g x i) → J L g2)
    (hAdd : ∀ (L : List Pth) (P : Pth) (g : Hp) (tr : Nat → Nat) (Q : Nat → Option Value → Hp → Prop), P.length ≤ 61 → sX P = p → sY P = q → fsC g x p q (lF c P) (fX P) (fY P) tr (sX P) (sY P) → zI g x 9 = iI dp → J L g → (∀ g2, fi (fun q => x ≤ q ∧ q ≤ x + 4) g g2 → (∀ i, i ≠ 12 → zI g2 x i = zI g x i) → J (L ++ [P]) g2 → Q 0 none g2) → PR (D + 10) m_FaceSearch_addFound [.ref x] g Q) : ∀ (hh : Nat) (P : Pth), P.length + (hh + 1) = 61 → ∀ (t s : Nat) (L : List Pth) (xd yd : Nat) (tr : Nat → Nat) (g : Hp), tr P.length = t → t ≤ p - sX P + 1 → sX P ≤ p → sY P ≤ q → (∀ k, k < 122 → 0 ≤ lF c P k) → s + (enW c p q dp (ndW c p q dp hh) P t).2 ≤ 100000000 → fsC g x p q (lF c P) (upN (fX P) P.length xd) (upN (fY P) P.length yd) tr (sX P) (sY P) → zI g x 9 = iI dp → J L g → fi (fsA x) h g → (∀ (g2 : Hp) (tr2 : Nat → Nat) (s2 : Nat), s2 + 1 = s + (enW c p q dp (ndW c p q dp hh) P t).2 → (∀ i, i < P.length → tr2 i = tr i) → fsC g2 x p q (lF c P) (fX P) (fY P) tr2 (sX P) (sY P) → zI g2 x 9 = iI dp → J (L ++ (enW c p q dp (ndW c p q dp hh) P t).1) g2 → fi (fsA x) h g2 → PW (D + 11) 16 24 [some (.ref x), some (.int (iI P.length)), some (.int (iI s2))] [] g2 Q) → PW (D + 11) 16 12 [some (.ref x), some (.int (iI P.length)), some (.int (iI s))] [] g Q := by
  intro hh
  induction hh using Nat.strongRecOn with
  | _ hh ihh =>
  intro P hP t
  induction t using Nat.strongRecOn with
  | _ t iht =>
  intro s L xd yd tr g htr ht hsx hsy hpos hst hs h9 hJL hf K
  have N := fsF hs.1
  have ep := enW_pos (c := c) (p := p) (q := q) (dp := dp) (ch := ndW c p q dp hh) (P := P) t
  have hd : P.length < 61 := by omega
  refine vs_ok 10 ?_
  rw [show ((gRes 16).drop 12).take 10 = [.iload 2, .iconst 100000000, .if_icmp .ge 101, .iload 1, .ifCond .lt 101, .iload 1, .iconst 61, .if_icmp .ge 101, .aload 0, .iload 1] from rfl]
  simp (disch := omega) only [vs_iconst, vs_if_icmp, vs_ifCond, vs_aload0, vs_iload1, vs_iload2, vs_nil, gv_0, gv_1, gv_2, gv_3, pv_0, pv_1, va_rf_s, Nat.reduceDiv, Nat.reduceMod, Nat.reduceAdd, Nat.reduceMul, Int.reduceToNat, true_and, and_true, and_self, cP_eq, cP_ne, cP_lt, cP_ge, cP_gt, cP_le, eL_i, eL_l, eL_r, eL_n, Option.toList_none, Option.toList_some, List.nil_append, List.cons_append, kkI, llI, nnI, rrI, jjI, kkJ, llJ, nnJ, rrJ, iiJ, zIIs, zJJs, nEF, nET, and_false, false_and, jmin, jmax, catS_n, catS_i, catS_r, catS_l, Nat.reduceLeDiff, j1eq1, n21, jt0, jt1, Bool.false_eq_true, Classical.not_not, true_or, or_true, false_or, or_false, true_imp_iff, false_imp_iff, not_true_eq_false, not_false_eq_true, jif0, jif1, jifb, ltT, ltF, leT, leF, eqT, eqF, jlt, jle, jeq, jlt0, jle0, jeq0, jge0, jgt0, jinB, jnat, clt, cle, ceq, cgt, cge, lI_add, lI_sub, lI_mul, jadd, jsub, jmul, jneg, jtol, b010, b011, pv_2t, Int.toNat_natCast, Option.some.injEq, exists_eq_left', if_true, if_false]
  refine PW.iv rfl rfl rfl N.1.1 N.1.2.1 (le_b rfl) (le_b rfl) ?_
  refine t_chooseNext hs hq64 hsy hd (fun r hr g1 f1 s1 => ⟨rfl, ⟨f1.1.2.2.1, rfl⟩, ?_⟩) (fun hr g1 f1 s1 => ⟨rfl, ⟨f1.1.2.2.1, rfl⟩, ?_⟩)
  · rw [cn_up, htr] at hr
    rw [up_up2, up_up2, ← fX_app.1, ← fX_app.2] at s1
    have eW := enW_some (c := c) (p := p) (q := q) (dp := dp) (ch := ndW c p q dp hh) (P := P) t hr
    have rl := cnF_lt hr
    have sa := sX_app (P := P) (a := r)
    have w1 := enW_pos (c := c) (p := p) (q := q) (dp := dp) (ch := ndW c p q dp hh) (P := P) r.1
    generalize hRR : (@ite (List Pth × Nat) (enP c (P ++ [r])) (Classical.propDecidable _) (if sX (P ++ [r]) = p ∧ sY (P ++ [r]) = q then ([P ++ [r]], 0) else if P.length < dp then ndW c p q dp hh (P ++ [r]) else ([], 0)) ([], 0)) = RR at eW
    rw [eW] at hst K
    dsimp only at hst K
    have f1' : fi (seS x) g g1 := f1.wk fun q z => by unfold seS; omega
    have e1 : zI g1 x = zI g x := f1.1.2.2.2.2.2.1 _ (by omega)
    have j1 : J L g1 := hJ L g g1 hJL f1' fun i _ _ => by rw [e1]
    have N1 := fsF s1.1
    -- undone, at the step's end
    have aft : ∀ (g3 : Hp) (tr3 : Nat → Nat) (s3 : Nat) (L3 : List Pth), s3 = s + RR.2 → L3 = L ++ RR.1 → tr3 P.length = r.1 → (∀ i, i < P.length → tr3 i = tr i) → fsC g3 x p q (lF c P) (upN (fX P) P.length r.1) (upN (fY P) P.length r.2) tr3 (sX P) (sY P) → zI g3 x 9 = iI dp → J L3 g3 → fi (fsA x) h g3 → PW (D + 11) 16 99 [some (.ref x), some (.int (iI P.length)), some (.int (iI s3))] [] g3 Q := fun g3 tr3 s3 L3 es eL et etr s3' h93 j3 f3 => by
      refine vs_ok 2 ?_
      rw [show ((gRes 16).drop 99).take 2 = [.iinc 2 1, .goto 12] from rfl]
      simp (disch := omega) only [vs_goto, vs_iinc2n, vs_iinc2i, vs_iinc2r, vs_iinc2l, vs_nil, gv_0, gv_1, gv_2, gv_3, pv_0, pv_1, va_rf_s, Nat.reduceDiv, Nat.reduceMod, Nat.reduceAdd, Nat.reduceMul, Int.reduceToNat, true_and, and_true, and_self, cP_eq, cP_ne, cP_lt, cP_ge, cP_gt, cP_le, eL_i, eL_l, eL_r, eL_n, Option.toList_none, Option.toList_some, List.nil_append, List.cons_append, kkI, llI, nnI, rrI, jjI, kkJ, llJ, nnJ, rrJ, iiJ, zIIs, zJJs, nEF, nET, and_false, false_and, jmin, jmax, catS_n, catS_i, catS_r, catS_l, Nat.reduceLeDiff, j1eq1, n21, jt0, jt1, Bool.false_eq_true, Classical.not_not, true_or, or_true, false_or, or_false, true_imp_iff, false_imp_iff, not_true_eq_false, not_false_eq_true, jif0, jif1, jifb, ltT, ltF, leT, leF, eqT, eqF, jlt, jle, jeq, jlt0, jle0, jeq0, jge0, jgt0, jinB, jnat, clt, cle, ceq, cgt, cge, lI_add, lI_sub, lI_mul, jadd, jsub, jmul, jneg, jtol, b010, b011, pv_2t, Int.toNat_natCast, Option.some.injEq, exists_eq_left', if_true, if_false]
      refine iht r.1 rl.1 (s3 + 1) L3 r.1 r.2 tr3 g3 et (by omega) hsx hsy hpos (by omega) s3' h93 j3 f3 fun g4 tr4 s4 y1 y2 y3 y4 y5 y6 => ?_
      refine K g4 tr4 s4 (by omega) (fun i hi => (y2 i hi).trans (etr i hi)) y3 y4 ?_ y6
      rw [eL, List.append_assoc] at y5
      exact y5
    have undo : ∀ (g2 : Hp) (tr2 : Nat → Nat) (s2 : Nat) (L2 : List Pth) (i : Nat), (i = 36 ∨ i = 54 ∨ i = 94) → s2 = s + RR.2 → L2 = L ++ RR.1 → tr2 P.length = r.1 → (∀ i, i < P.length → tr2 i = tr i) → fsC g2 x p q (lF c (P ++ [r])) (fX (P ++ [r])) (fY (P ++ [r])) tr2 (sX (P ++ [r])) (sY (P ++ [r])) → zI g2 x 9 = iI dp → J L2 g2 → fi (fsA x) h g2 → PW (D + 11) 16 i [some (.ref x), some (.int (iI P.length)), some (.int (iI s2))] [] g2 Q := fun g2 tr2 s2 L2 i hi es eL et etr s2' h92 j2 f2 => by
      have N2 := fsF s2'.1
      have go : ∀ (g3 : Hp) (v : Int32), fi (seS x) g2 g3 → (∀ i, i ≠ 10 → i ≠ 11 → zI g3 x i = zI g2 x i) → fsC g3 x p q (lF c P) (upN (fX P) P.length r.1) (upN (fY P) P.length r.2) tr2 (sX P) (sY P) → PW (D + 11) 16 99 [some (.ref x), some (.int (iI P.length)), some (.int (iI s2))] [] g3 Q := fun g3 v f3 z3 s3 => aft g3 tr2 s2 L2 es eL et etr s3 (by rw [z3 9 (by omega) (by omega)]; exact h92) (hJ L2 g2 g3 j2 f3 z3) (f2.tr (f3.wk fun q z => by unfold seS at z; unfold fsA; omega))
      rcases hi with hi | hi | hi
      · subst hi
        refine vs_ok 3 ?_
        rw [show ((gRes 16).drop 36).take 3 = [.aload 0, .iload 1, .iconst 1] from rfl]
        simp (disch := omega) only [vs_iconst, vs_aload0, vs_iload1, vs_nil, gv_0, gv_1, gv_2, gv_3, pv_0, pv_1, va_rf_s, Nat.reduceDiv, Nat.reduceMod, Nat.reduceAdd, Nat.reduceMul, Int.reduceToNat, true_and, and_true, and_self, cP_eq, cP_ne, cP_lt, cP_ge, cP_gt, cP_le, eL_i, eL_l, eL_r, eL_n, Option.toList_none, Option.toList_some, List.nil_append, List.cons_append, kkI, llI, nnI, rrI, jjI, kkJ, llJ, nnJ, rrJ, iiJ, zIIs, zJJs, nEF, nET, and_false, false_and, jmin, jmax, catS_n, catS_i, catS_r, catS_l, Nat.reduceLeDiff, j1eq1, n21, jt0, jt1, Bool.false_eq_true, Classical.not_not, true_or, or_true, false_or, or_false, true_imp_iff, false_imp_iff, not_true_eq_false, not_false_eq_true, jif0, jif1, jifb, ltT, ltF, leT, leF, eqT, eqF, jlt, jle, jeq, jlt0, jle0, jeq0, jge0, jgt0, jinB, jnat, clt, cle, ceq, cgt, cge, lI_add, lI_sub, lI_mul, jadd, jsub, jmul, jneg, jtol, b010, b011, pv_2t, Int.toNat_natCast, Option.some.injEq, exists_eq_left', if_true, if_false]
        refine PW.iv rfl rfl rfl N2.1.1 N2.1.2.1 (le_b rfl) (le_b rfl) ?_
        refine t_takeUndo s2' hc hd (by omega) (by omega) fun g3 v f3 z3 s3 => ⟨rfl, ⟨f3.1.2.2.1, rfl⟩, ?_⟩
        refine vs_ok 2 ?_
        rw [show ((gRes 16).drop 40).take 2 = [.pop, .goto 99] from rfl]
        simp (disch := omega) only [vs_goto, vs_nil, gv_0, gv_1, gv_2, gv_3, pv_0, pv_1, va_rf_s, vs_popi, vs_popr, Nat.reduceDiv, Nat.reduceMod, Nat.reduceAdd, Nat.reduceMul, Int.reduceToNat, true_and, and_true, and_self, cP_eq, cP_ne, cP_lt, cP_ge, cP_gt, cP_le, eL_i, eL_l, eL_r, eL_n, Option.toList_none, Option.toList_some, List.nil_append, List.cons_append, kkI, llI, nnI, rrI, jjI, kkJ, llJ, nnJ, rrJ, iiJ, zIIs, zJJs, nEF, nET, and_false, false_and, jmin, jmax, catS_n, catS_i, catS_r, catS_l, Nat.reduceLeDiff, j1eq1, n21, jt0, jt1, Bool.false_eq_true, Classical.not_not, true_or, or_true, false_or, or_false, true_imp_iff, false_imp_iff, not_true_eq_false, not_false_eq_true, jif0, jif1, jifb, ltT, ltF, leT, leF, eqT, eqF, jlt, jle, jeq, jlt0, jle0, jeq0, jge0, jgt0, jinB, jnat, clt, cle, ceq, cgt, cge, lI_add, lI_sub, lI_mul, jadd, jsub, jmul, jneg, jtol, b010, b011, pv_2t, Int.toNat_natCast, Option.some.injEq, exists_eq_left', if_true, if_false]
        exact go g3 v f3 z3 s3
      · subst hi
        refine vs_ok 3 ?_
        rw [show ((gRes 16).drop 54).take 3 = [.aload 0, .iload 1, .iconst 1] from rfl]
        simp (disch := omega) only [vs_iconst, vs_aload0, vs_iload1, vs_nil, gv_0, gv_1, gv_2, gv_3, pv_0, pv_1, va_rf_s, Nat.reduceDiv, Nat.reduceMod, Nat.reduceAdd, Nat.reduceMul, Int.reduceToNat, true_and, and_true, and_self, cP_eq, cP_ne, cP_lt, cP_ge, cP_gt, cP_le, eL_i, eL_l, eL_r, eL_n, Option.toList_none, Option.toList_some, List.nil_append, List.cons_append, kkI, llI, nnI, rrI, jjI, kkJ, llJ, nnJ, rrJ, iiJ, zIIs, zJJs, nEF, nET, and_false, false_and, jmin, jmax, catS_n, catS_i, catS_r, catS_l, Nat.reduceLeDiff, j1eq1, n21, jt0, jt1, Bool.false_eq_true, Classical.not_not, true_or, or_true, false_or, or_false, true_imp_iff, false_imp_iff, not_true_eq_false, not_false_eq_true, jif0, jif1, jifb, ltT, ltF, leT, leF, eqT, eqF, jlt, jle, jeq, jlt0, jle0, jeq0, jge0, jgt0, jinB, jnat, clt, cle, ceq, cgt, cge, lI_add, lI_sub, lI_mul, jadd, jsub, jmul, jneg, jtol, b010, b011, pv_2t, Int.toNat_natCast, Option.some.injEq, exists_eq_left', if_true, if_false]
        refine PW.iv rfl rfl rfl N2.1.1 N2.1.2.1 (le_b rfl) (le_b rfl) ?_
        refine t_takeUndo s2' hc hd (by omega) (by omega) fun g3 v f3 z3 s3 => ⟨rfl, ⟨f3.1.2.2.1, rfl⟩, ?_⟩
        refine vs_ok 2 ?_
        rw [show ((gRes 16).drop 58).take 2 = [.pop, .goto 99] from rfl]
        simp (disch := omega) only [vs_goto, vs_nil, gv_0, gv_1, gv_2, gv_3, pv_0, pv_1, va_rf_s, vs_popi, vs_popr, Nat.reduceDiv, Nat.reduceMod, Nat.reduceAdd, Nat.reduceMul, Int.reduceToNat, true_and, and_true, and_self, cP_eq, cP_ne, cP_lt, cP_ge, cP_gt, cP_le, eL_i, eL_l, eL_r, eL_n, Option.toList_none, Option.toList_some, List.nil_append, List.cons_append, kkI, llI, nnI, rrI, jjI, kkJ, llJ, nnJ, rrJ, iiJ, zIIs, zJJs, nEF, nET, and_false, false_and, jmin, jmax, catS_n, catS_i, catS_r, catS_l, Nat.reduceLeDiff, j1eq1, n21, jt0, jt1, Bool.false_eq_true, Classical.not_not, true_or, or_true, false_or, or_false, true_imp_iff, false_imp_iff, not_true_eq_false, not_false_eq_true, jif0, jif1, jifb, ltT, ltF, leT, leF, eqT, eqF, jlt, jle, jeq, jlt0, jle0, jeq0, jge0, jgt0, jinB, jnat, clt, cle, ceq, cgt, cge, lI_add, lI_sub, lI_mul, jadd, jsub, jmul, jneg, jtol, b010, b011, pv_2t, Int.toNat_natCast, Option.some.injEq, exists_eq_left', if_true, if_false]
        exact go g3 v f3 z3 s3
      · subst hi
        refine vs_ok 3 ?_
        rw [show ((gRes 16).drop 94).take 3 = [.aload 0, .iload 1, .iconst 1] from rfl]
        simp (disch := omega) only [vs_iconst, vs_aload0, vs_iload1, vs_nil, gv_0, gv_1, gv_2, gv_3, pv_0, pv_1, va_rf_s, Nat.reduceDiv, Nat.reduceMod, Nat.reduceAdd, Nat.reduceMul, Int.reduceToNat, true_and, and_true, and_self, cP_eq, cP_ne, cP_lt, cP_ge, cP_gt, cP_le, eL_i, eL_l, eL_r, eL_n, Option.toList_none, Option.toList_some, List.nil_append, List.cons_append, kkI, llI, nnI, rrI, jjI, kkJ, llJ, nnJ, rrJ, iiJ, zIIs, zJJs, nEF, nET, and_false, false_and, jmin, jmax, catS_n, catS_i, catS_r, catS_l, Nat.reduceLeDiff, j1eq1, n21, jt0, jt1, Bool.false_eq_true, Classical.not_not, true_or, or_true, false_or, or_false, true_imp_iff, false_imp_iff, not_true_eq_false, not_false_eq_true, jif0, jif1, jifb, ltT, ltF, leT, leF, eqT, eqF, jlt, jle, jeq, jlt0, jle0, jeq0, jge0, jgt0, jinB, jnat, clt, cle, ceq, cgt, cge, lI_add, lI_sub, lI_mul, jadd, jsub, jmul, jneg, jtol, b010, b011, pv_2t, Int.toNat_natCast, Option.some.injEq, exists_eq_left', if_true, if_false]
        refine PW.iv rfl rfl rfl N2.1.1 N2.1.2.1 (le_b rfl) (le_b rfl) ?_
        refine t_takeUndo s2' hc hd (by omega) (by omega) fun g3 v f3 z3 s3 => ⟨rfl, ⟨f3.1.2.2.1, rfl⟩, ?_⟩
        refine vs_ok 1 ?_
        rw [show ((gRes 16).drop 98).take 1 = [.pop] from rfl]
        simp (disch := omega) only [vs_nil, gv_0, gv_1, gv_2, gv_3, pv_0, pv_1, va_rf_s, vs_popi, vs_popr, Nat.reduceDiv, Nat.reduceMod, Nat.reduceAdd, Nat.reduceMul, Int.reduceToNat, true_and, and_true, and_self, cP_eq, cP_ne, cP_lt, cP_ge, cP_gt, cP_le, eL_i, eL_l, eL_r, eL_n, Option.toList_none, Option.toList_some, List.nil_append, List.cons_append, kkI, llI, nnI, rrI, jjI, kkJ, llJ, nnJ, rrJ, iiJ, zIIs, zJJs, nEF, nET, and_false, false_and, jmin, jmax, catS_n, catS_i, catS_r, catS_l, Nat.reduceLeDiff, j1eq1, n21, jt0, jt1, Bool.false_eq_true, Classical.not_not, true_or, or_true, false_or, or_false, true_imp_iff, false_imp_iff, not_true_eq_false, not_false_eq_true, jif0, jif1, jifb, ltT, ltF, leT, leF, eqT, eqF, jlt, jle, jeq, jlt0, jle0, jeq0, jge0, jgt0, jinB, jnat, clt, cle, ceq, cgt, cge, lI_add, lI_sub, lI_mul, jadd, jsub, jmul, jneg, jtol, b010, b011, pv_2t, Int.toNat_natCast, Option.some.injEq, exists_eq_left', if_true, if_false]
        exact go g3 v f3 z3 s3
    refine vs_ok 1 ?_
    rw [show ((gRes 16).drop 23).take 1 = [.ifCond .ne 31] from rfl]
    simp (disch := omega) only [vs_ifCond, vs_nil, gv_0, gv_1, gv_2, gv_3, pv_0, pv_1, va_rf_s, Nat.reduceDiv, Nat.reduceMod, Nat.reduceAdd, Nat.reduceMul, Int.reduceToNat, true_and, and_true, and_self, cP_eq, cP_ne, cP_lt, cP_ge, cP_gt, cP_le, eL_i, eL_l, eL_r, eL_n, Option.toList_none, Option.toList_some, List.nil_append, List.cons_append, kkI, llI, nnI, rrI, jjI, kkJ, llJ, nnJ, rrJ, iiJ, zIIs, zJJs, nEF, nET, and_false, false_and, jmin, jmax, catS_n, catS_i, catS_r, catS_l, Nat.reduceLeDiff, j1eq1, n21, jt0, jt1, Bool.false_eq_true, Classical.not_not, true_or, or_true, false_or, or_false, true_imp_iff, false_imp_iff, not_true_eq_false, not_false_eq_true, jif0, jif1, jifb, ltT, ltF, leT, leF, eqT, eqF, jlt, jle, jeq, jlt0, jle0, jeq0, jge0, jgt0, jinB, jnat, clt, cle, ceq, cgt, cge, lI_add, lI_sub, lI_mul, jadd, jsub, jmul, jneg, jtol, b010, b011, pv_2t, Int.toNat_natCast, Option.some.injEq, exists_eq_left', if_true, if_false]
    refine vs_ok 3 ?_
    rw [show ((gRes 16).drop 31).take 3 = [.aload 0, .iload 1, .iconst (-1)] from rfl]
    simp (disch := omega) only [vs_iconst, vs_aload0, vs_iload1, vs_nil, gv_0, gv_1, gv_2, gv_3, pv_0, pv_1, va_rf_s, Nat.reduceDiv, Nat.reduceMod, Nat.reduceAdd, Nat.reduceMul, Int.reduceToNat, true_and, and_true, and_self, cP_eq, cP_ne, cP_lt, cP_ge, cP_gt, cP_le, eL_i, eL_l, eL_r, eL_n, Option.toList_none, Option.toList_some, List.nil_append, List.cons_append, kkI, llI, nnI, rrI, jjI, kkJ, llJ, nnJ, rrJ, iiJ, zIIs, zJJs, nEF, nET, and_false, false_and, jmin, jmax, catS_n, catS_i, catS_r, catS_l, Nat.reduceLeDiff, j1eq1, n21, jt0, jt1, Bool.false_eq_true, Classical.not_not, true_or, or_true, false_or, or_false, true_imp_iff, false_imp_iff, not_true_eq_false, not_false_eq_true, jif0, jif1, jifb, ltT, ltF, leT, leF, eqT, eqF, jlt, jle, jeq, jlt0, jle0, jeq0, jge0, jgt0, jinB, jnat, clt, cle, ceq, cgt, cge, lI_add, lI_sub, lI_mul, jadd, jsub, jmul, jneg, jtol, b010, b011, pv_2t, Int.toNat_natCast, Option.some.injEq, exists_eq_left', if_true, if_false]
    refine PW.iv rfl rfl rfl N1.1.1 N1.1.2.1 (le_b rfl) (le_b rfl) ?_
    refine t_takeDo s1 hc hd (by omega) (by omega) fun g2 b _ f2 z2 s2 hb => ⟨rfl, ⟨f2.1.2.2.1, rfl⟩, ?_⟩
    have N2 := fsF s2.1
    have h92 : zI g2 x 9 = iI dp := by rw [z2 9 (by omega) (by omega), e1]; exact h9
    have j2 : J L g2 := hJ L g1 g2 j1 f2 z2
    have f02 : fi (fsA x) h g2 := hf.tr ((f1'.tr f2).wk fun q z => by unfold seS at z; unfold fsA; omega)
    have tr0 : upN tr P.length r.1 P.length = r.1 := if_pos rfl
    have tr1 : ∀ i, i < P.length → upN tr P.length r.1 i = tr i := fun i hi => if_neg (by omega)
    by_cases hbb : b
    · have hen := hb.mp hbb
      have epos : ∀ k, k < 122 → 0 ≤ lF c (P ++ [r]) k := fun k hk => by
        have el : (P ++ [r]).length - 1 = P.length := by rw [app_len]; omega
        unfold enP at hen
        rw [el] at hen
        by_cases y : P.length ≤ k ∧ k < P.length + (P.length + 1)
        · rcases hen with w | w
          · rw [lF_app, ckF_00 w]
            have := hpos k hk
            omega
          · exact w k y.1 y.2
        · rw [lF_app, ckF_0 y]
          have := hpos k hk
          omega
      rw [if_pos hen] at hRR
      obtain ⟨-, a5, a6, al, ax, ay, at9, a10, a11⟩ := id s2
      have sxb : sX (P ++ [r]) ≤ p := by omega
      have syb : sY (P ++ [r]) ≤ q := by omega
      have p60 : ¬ (sX (P ++ [r]) = p ∧ sY (P ++ [r]) = q) → PW (D + 11) 16 60 [some (.ref x), some (.int (iI P.length)), some (.int (iI s))] [] g2 Q := fun cf => by
        rw [if_neg cf] at hRR
        by_cases cd : P.length < dp
        · rw [if_pos cd] at hRR
          obtain ⟨h2, rfl⟩ : ∃ h2, hh = h2 + 1 := ⟨hh - 1, by omega⟩
          have eN : ndW c p q dp (h2 + 1) (P ++ [r]) = enW c p q dp (ndW c p q dp h2) (P ++ [r]) (tW c p (P ++ [r])) := rfl
          rw [eN] at hRR
          have el : (P ++ [r]).length = P.length + 1 := app_len
          have y0 := ay 0 (by omega)
          have l1 := al (P.length + 1) (by omega)
          have e0 := epos (P.length + 1) (by omega)
          have tb : tW c p (P ++ [r]) = min (p - sX (P ++ [r])) (if 0 < fY (P ++ [r]) 0 then (lF c (P ++ [r]) (P.length + 1)).toNat / fY (P ++ [r]) 0 else 0) + 1 := by
            unfold tW
            rw [el]
          obtain ⟨n, hn⟩ : ∃ n : Nat, lF c (P ++ [r]) (P.length + 1) = (n : Int) := ⟨(lF c (P ++ [r]) (P.length + 1)).toNat, by omega⟩
          rw [hn] at tb l1
          rw [Int.toNat_natCast] at tb
          have dn : n / fY (P ++ [r]) 0 ≤ n := Nat.div_le_self _ _
          have d1 : (P.length : Int) + 1 = ((P.length + 1 : Nat) : Int) := by omega
          have t0 : ((0 : Int)).toNat = 0 := rfl
          have p89 : ∀ dv : Nat, dv ≤ n → dv = (if 0 < fY (P ++ [r]) 0 then n / fY (P ++ [r]) 0 else 0) → PW (D + 11) 16 89 [some (.ref x), some (.int (iI (P.length + 1 : Nat))), some (.int (iI s))] [.int (iI dv), .int (iI ((p : Int) - (sX (P ++ [r]) : Int))), .int (iI (P.length + 1 : Nat)), .ref (x + 8)] g2 Q := fun dv hdn hdv => by
            rw [← hdv] at tb
            generalize hT : tW c p (P ++ [r]) = T at *
            have mk : (if (dv : Int) < (p : Int) - (sX (P ++ [r]) : Int) then (dv : Int) else (p : Int) - (sX (P ++ [r]) : Int)) + 1 = ((T : Nat) : Int) := by
              split <;> omega
            refine vs_ok 4 ?_
            rw [show ((gRes 16).drop 89).take 4 = [.invokedynamic 3, .iconst 1, .iadd, .iastore] from rfl]
            simp (disch := omega) only [vs_iadd, vs_iconst, vs_iastore, vs_nil, gv_0, gv_1, gv_2, gv_3, pv_0, pv_1, va_rf_s, vs_abs, vs_max, vs_min, vs_oinit, Nat.reduceDiv, Nat.reduceMod, Nat.reduceAdd, Nat.reduceMul, Int.reduceToNat, true_and, and_true, and_self, cP_eq, cP_ne, cP_lt, cP_ge, cP_gt, cP_le, eL_i, eL_l, eL_r, eL_n, Option.toList_none, Option.toList_some, List.nil_append, List.cons_append, kkI, llI, nnI, rrI, jjI, kkJ, llJ, nnJ, rrJ, iiJ, zIIs, zJJs, nEF, nET, and_false, false_and, jmin, jmax, catS_n, catS_i, catS_r, catS_l, Nat.reduceLeDiff, j1eq1, n21, jt0, jt1, Bool.false_eq_true, Classical.not_not, true_or, or_true, false_or, or_false, true_imp_iff, false_imp_iff, not_true_eq_false, not_false_eq_true, jif0, jif1, jifb, ltT, ltF, leT, leF, eqT, eqF, jlt, jle, jeq, jlt0, jle0, jeq0, jge0, jgt0, jinB, jnat, clt, cle, ceq, cgt, cge, lI_add, lI_sub, lI_mul, jadd, jsub, jmul, jneg, jtol, b010, b011, pv_2t, Int.toNat_natCast, Option.some.injEq, exists_eq_left', if_true, if_false, N2, jmp, mk]
            refine vs_ok 1 ?_
            rw [show ((gRes 16).drop 93).take 1 = [.goto 99] from rfl]
            simp (disch := omega) only [vs_goto, vs_nil, gv_0, gv_1, gv_2, gv_3, pv_0, pv_1, va_rf_s, Nat.reduceDiv, Nat.reduceMod, Nat.reduceAdd, Nat.reduceMul, Int.reduceToNat, true_and, and_true, and_self, cP_eq, cP_ne, cP_lt, cP_ge, cP_gt, cP_le, eL_i, eL_l, eL_r, eL_n, Option.toList_none, Option.toList_some, List.nil_append, List.cons_append, kkI, llI, nnI, rrI, jjI, kkJ, llJ, nnJ, rrJ, iiJ, zIIs, zJJs, nEF, nET, and_false, false_and, jmin, jmax, catS_n, catS_i, catS_r, catS_l, Nat.reduceLeDiff, j1eq1, n21, jt0, jt1, Bool.false_eq_true, Classical.not_not, true_or, or_true, false_or, or_false, true_imp_iff, false_imp_iff, not_true_eq_false, not_false_eq_true, jif0, jif1, jifb, ltT, ltF, leT, leF, eqT, eqF, jlt, jle, jeq, jlt0, jle0, jeq0, jge0, jgt0, jinB, jnat, clt, cle, ceq, cgt, cge, lI_add, lI_sub, lI_mul, jadd, jsub, jmul, jneg, jtol, b010, b011, pv_2t, Int.toNat_natCast, Option.some.injEq, exists_eq_left', if_true, if_false]
            refine vs_ok 2 ?_
            rw [show ((gRes 16).drop 99).take 2 = [.iinc 2 1, .goto 12] from rfl]
            simp (disch := omega) only [vs_goto, vs_iinc2n, vs_iinc2i, vs_iinc2r, vs_iinc2l, vs_nil, gv_0, gv_1, gv_2, gv_3, pv_0, pv_1, va_rf_s, Nat.reduceDiv, Nat.reduceMod, Nat.reduceAdd, Nat.reduceMul, Int.reduceToNat, true_and, and_true, and_self, cP_eq, cP_ne, cP_lt, cP_ge, cP_gt, cP_le, eL_i, eL_l, eL_r, eL_n, Option.toList_none, Option.toList_some, List.nil_append, List.cons_append, kkI, llI, nnI, rrI, jjI, kkJ, llJ, nnJ, rrJ, iiJ, zIIs, zJJs, nEF, nET, and_false, false_and, jmin, jmax, catS_n, catS_i, catS_r, catS_l, Nat.reduceLeDiff, j1eq1, n21, jt0, jt1, Bool.false_eq_true, Classical.not_not, true_or, or_true, false_or, or_false, true_imp_iff, false_imp_iff, not_true_eq_false, not_false_eq_true, jif0, jif1, jifb, ltT, ltF, leT, leF, eqT, eqF, jlt, jle, jeq, jlt0, jle0, jeq0, jge0, jgt0, jinB, jnat, clt, cle, ceq, cgt, cge, lI_add, lI_sub, lI_mul, jadd, jsub, jmul, jneg, jtol, b010, b011, pv_2t, Int.toNat_natCast, Option.some.injEq, exists_eq_left', if_true, if_false]
            have f4 : fi (seS x) g2 (zsI g2 (x + 8) (P.length + 1) (iI T)) := fi_I (by unfold seS; omega)
            have z4 : zI (zsI g2 (x + 8) (P.length + 1) (iI T)) x = zI g2 x := by
              funext i
              rw [zI_s, if_neg (by omega)]
            have s4 : fsC (zsI g2 (x + 8) (P.length + 1) (iI T)) x p q (lF c (P ++ [r])) (fX (P ++ [r])) (fY (P ++ [r])) (upN (upN tr P.length r.1) (P.length + 1) T) (sX (P ++ [r])) (sY (P ++ [r])) := by
              refine ⟨s2.1.fi f4, by rw [z4]; exact a5, by rw [z4]; exact a6, fun i hi => by rw [zI_s, if_neg (by omega)]; exact al i hi, fun i hi => by rw [zI_s, if_neg (by omega)]; exact ax i hi, fun i hi => by rw [zI_s, if_neg (by omega)]; exact ay i hi, fun i hi => ?_, by rw [z4]; exact a10, by rw [z4]; exact a11⟩
              rw [zI_s]
              show (if i = P.length + 1 then T else upN tr P.length r.1 i) ≤ 65 ∧ _ = iI ((if i = P.length + 1 then T else upN tr P.length r.1 i : Nat) : Int)
              by_cases ci : i = P.length + 1
              · rw [if_pos ci, if_pos ⟨rfl, ci⟩]
                exact ⟨by omega, rfl⟩
              · rw [if_neg ci, if_neg (fun z => ci z.2)]
                exact at9 i hi
            generalize zsI g2 (x + 8) (P.length + 1) (iI T) = g4 at *
            have j4 : J L g4 := hJ L g2 g4 j2 f4 fun i _ _ => by rw [z4]
            have key := ihh h2 (by omega) (P ++ [r]) (by omega) T (s + 1) L 0 0 (upN (upN tr P.length r.1) (P.length + 1) T) g4 (by rw [el]; exact if_pos rfl) (by omega) sxb syb epos (by rw [hRR]; omega) (by rw [up_self (fX_ge (Nat.le_refl _)).1, up_self (fX_ge (Nat.le_refl _)).2]; exact s4) (by rw [z4]; exact h92) j4 (f02.tr (f4.wk fun q z => by unfold seS at z; unfold fsA; omega)) fun g5 tr5 s5 y1 y2 y3 y4 y5 y6 => by
              rw [hRR] at y1 y5
              rw [el] at y2 ⊢
              have m1 : ((P.length + 1 : Nat) : Int) + (-1) = (P.length : Int) := by omega
              have N5 := fsF y3.1
              refine vs_ok 4 ?_
              rw [show ((gRes 16).drop 24).take 4 = [.iinc 1 (-1), .aload 0, .iload 1, .iconst 1] from rfl]
              simp (disch := omega) only [vs_iconst, vs_aload0, vs_iload1, vs_iinc1n, vs_iinc1i, vs_iinc1r, vs_iinc1l, vs_nil, gv_0, gv_1, gv_2, gv_3, pv_0, pv_1, va_rf_s, Nat.reduceDiv, Nat.reduceMod, Nat.reduceAdd, Nat.reduceMul, Int.reduceToNat, true_and, and_true, and_self, cP_eq, cP_ne, cP_lt, cP_ge, cP_gt, cP_le, eL_i, eL_l, eL_r, eL_n, Option.toList_none, Option.toList_some, List.nil_append, List.cons_append, kkI, llI, nnI, rrI, jjI, kkJ, llJ, nnJ, rrJ, iiJ, zIIs, zJJs, nEF, nET, and_false, false_and, jmin, jmax, catS_n, catS_i, catS_r, catS_l, Nat.reduceLeDiff, j1eq1, n21, jt0, jt1, Bool.false_eq_true, Classical.not_not, true_or, or_true, false_or, or_false, true_imp_iff, false_imp_iff, not_true_eq_false, not_false_eq_true, jif0, jif1, jifb, ltT, ltF, leT, leF, eqT, eqF, jlt, jle, jeq, jlt0, jle0, jeq0, jge0, jgt0, jinB, jnat, clt, cle, ceq, cgt, cge, lI_add, lI_sub, lI_mul, jadd, jsub, jmul, jneg, jtol, b010, b011, pv_2t, Int.toNat_natCast, Option.some.injEq, exists_eq_left', if_true, if_false, m1]
              refine PW.iv rfl rfl rfl N5.1.1 N5.1.2.1 (le_b rfl) (le_b rfl) ?_
              refine t_takeUndo y3 hc hd (by omega) (by omega) fun g3 v f3 z3 s3 => ⟨rfl, ⟨f3.1.2.2.1, rfl⟩, ?_⟩
              refine vs_ok 2 ?_
              rw [show ((gRes 16).drop 29).take 2 = [.pop, .goto 99] from rfl]
              simp (disch := omega) only [vs_goto, vs_nil, gv_0, gv_1, gv_2, gv_3, pv_0, pv_1, va_rf_s, vs_popi, vs_popr, Nat.reduceDiv, Nat.reduceMod, Nat.reduceAdd, Nat.reduceMul, Int.reduceToNat, true_and, and_true, and_self, cP_eq, cP_ne, cP_lt, cP_ge, cP_gt, cP_le, eL_i, eL_l, eL_r, eL_n, Option.toList_none, Option.toList_some, List.nil_append, List.cons_append, kkI, llI, nnI, rrI, jjI, kkJ, llJ, nnJ, rrJ, iiJ, zIIs, zJJs, nEF, nET, and_false, false_and, jmin, jmax, catS_n, catS_i, catS_r, catS_l, Nat.reduceLeDiff, j1eq1, n21, jt0, jt1, Bool.false_eq_true, Classical.not_not, true_or, or_true, false_or, or_false, true_imp_iff, false_imp_iff, not_true_eq_false, not_false_eq_true, jif0, jif1, jifb, ltT, ltF, leT, leF, eqT, eqF, jlt, jle, jeq, jlt0, jle0, jeq0, jge0, jgt0, jinB, jnat, clt, cle, ceq, cgt, cge, lI_add, lI_sub, lI_mul, jadd, jsub, jmul, jneg, jtol, b010, b011, pv_2t, Int.toNat_natCast, Option.some.injEq, exists_eq_left', if_true, if_false]
              have q1 : tr5 P.length = r.1 := by
                rw [y2 P.length (by omega)]
                show (if P.length = P.length + 1 then T else upN tr P.length r.1 P.length) = r.1
                rw [if_neg (by omega)]
                exact tr0
              have q2 : ∀ i, i < P.length → tr5 i = tr i := fun i hi => by
                rw [y2 i (by omega)]
                show (if i = P.length + 1 then T else upN tr P.length r.1 i) = tr i
                rw [if_neg (by omega)]
                exact tr1 i hi
              exact aft g3 tr5 s5 _ (by omega) rfl q1 q2 s3 (by rw [z3 9 (by omega) (by omega)]; exact y4) (hJ _ g5 g3 y5 f3 z3) (y6.tr (f3.wk fun q z => by unfold seS at z; unfold fsA; omega))
            rw [el] at key
            exact key
          by_cases cy : 0 < fY (P ++ [r]) 0
          · refine vs_ok 4 ?_
            rw [show ((gRes 16).drop 60).take 4 = [.iload 1, .aload 0, .getfield 1090, .if_icmp .ge 94] from rfl]
            simp (disch := omega) only [vs_if_icmp, vs_getfield, vs_aload0, vs_iload1, vs_nil, gv_0, gv_1, gv_2, gv_3, pv_0, pv_1, va_rf_s, Nat.reduceDiv, Nat.reduceMod, Nat.reduceAdd, Nat.reduceMul, Int.reduceToNat, true_and, and_true, and_self, cP_eq, cP_ne, cP_lt, cP_ge, cP_gt, cP_le, eL_i, eL_l, eL_r, eL_n, Option.toList_none, Option.toList_some, List.nil_append, List.cons_append, kkI, llI, nnI, rrI, jjI, kkJ, llJ, nnJ, rrJ, iiJ, zIIs, zJJs, nEF, nET, and_false, false_and, jmin, jmax, catS_n, catS_i, catS_r, catS_l, Nat.reduceLeDiff, j1eq1, n21, jt0, jt1, Bool.false_eq_true, Classical.not_not, true_or, or_true, false_or, or_false, true_imp_iff, false_imp_iff, not_true_eq_false, not_false_eq_true, jif0, jif1, jifb, ltT, ltF, leT, leF, eqT, eqF, jlt, jle, jeq, jlt0, jle0, jeq0, jge0, jgt0, jinB, jnat, clt, cle, ceq, cgt, cge, lI_add, lI_sub, lI_mul, jadd, jsub, jmul, jneg, jtol, b010, b011, pv_2t, Int.toNat_natCast, Option.some.injEq, exists_eq_left', if_true, if_false, N2, h92]
            refine vs_ok 14 ?_
            rw [show ((gRes 16).drop 64).take 14 = [.iinc 1 1, .aload 0, .getfield 1042, .iload 1, .aload 0, .getfield 1050, .aload 0, .getfield 1100, .isub, .aload 0, .getfield 1032, .iconst 0, .iaload, .ifCond .le 88] from rfl]
            simp (disch := omega) only [vs_isub, vs_iconst, vs_ifCond, vs_getfield, vs_iaload, vs_aload0, vs_iload1, vs_iinc1n, vs_iinc1i, vs_iinc1r, vs_iinc1l, vs_nil, gv_0, gv_1, gv_2, gv_3, pv_0, pv_1, va_rf_s, Nat.reduceDiv, Nat.reduceMod, Nat.reduceAdd, Nat.reduceMul, Int.reduceToNat, true_and, and_true, and_self, cP_eq, cP_ne, cP_lt, cP_ge, cP_gt, cP_le, eL_i, eL_l, eL_r, eL_n, Option.toList_none, Option.toList_some, List.nil_append, List.cons_append, kkI, llI, nnI, rrI, jjI, kkJ, llJ, nnJ, rrJ, iiJ, zIIs, zJJs, nEF, nET, and_false, false_and, jmin, jmax, catS_n, catS_i, catS_r, catS_l, Nat.reduceLeDiff, j1eq1, n21, jt0, jt1, Bool.false_eq_true, Classical.not_not, true_or, or_true, false_or, or_false, true_imp_iff, false_imp_iff, not_true_eq_false, not_false_eq_true, jif0, jif1, jifb, ltT, ltF, leT, leF, eqT, eqF, jlt, jle, jeq, jlt0, jle0, jeq0, jge0, jgt0, jinB, jnat, clt, cle, ceq, cgt, cge, lI_add, lI_sub, lI_mul, jadd, jsub, jmul, jneg, jtol, b010, b011, pv_2t, Int.toNat_natCast, Option.some.injEq, exists_eq_left', if_true, if_false, N2, d1, a5, a10, y0.2, t0]
            refine vs_ok 9 ?_
            rw [show ((gRes 16).drop 78).take 9 = [.aload 0, .getfield 1012, .iload 1, .iaload, .aload 0, .getfield 1032, .iconst 0, .iaload, .idiv] from rfl]
            simp (disch := omega) only [vs_idiv, vs_iconst, vs_getfield, vs_iaload, vs_aload0, vs_iload1, vs_nil, gv_0, gv_1, gv_2, gv_3, pv_0, pv_1, va_rf_s, Nat.reduceDiv, Nat.reduceMod, Nat.reduceAdd, Nat.reduceMul, Int.reduceToNat, true_and, and_true, and_self, cP_eq, cP_ne, cP_lt, cP_ge, cP_gt, cP_le, eL_i, eL_l, eL_r, eL_n, Option.toList_none, Option.toList_some, List.nil_append, List.cons_append, kkI, llI, nnI, rrI, jjI, kkJ, llJ, nnJ, rrJ, iiJ, zIIs, zJJs, nEF, nET, and_false, false_and, jmin, jmax, catS_n, catS_i, catS_r, catS_l, Nat.reduceLeDiff, j1eq1, n21, jt0, jt1, Bool.false_eq_true, Classical.not_not, true_or, or_true, false_or, or_false, true_imp_iff, false_imp_iff, not_true_eq_false, not_false_eq_true, jif0, jif1, jifb, ltT, ltF, leT, leF, eqT, eqF, jlt, jle, jeq, jlt0, jle0, jeq0, jge0, jgt0, jinB, jnat, clt, cle, ceq, cgt, cge, lI_add, lI_sub, lI_mul, jadd, jsub, jmul, jneg, jtol, b010, b011, pv_2t, Int.toNat_natCast, Option.some.injEq, exists_eq_left', if_true, if_false, N2, d1, l1.2, y0.2, t0, jdN]
            refine vs_ok 1 ?_
            rw [show ((gRes 16).drop 87).take 1 = [.goto 89] from rfl]
            simp (disch := omega) only [vs_goto, vs_nil, gv_0, gv_1, gv_2, gv_3, pv_0, pv_1, va_rf_s, Nat.reduceDiv, Nat.reduceMod, Nat.reduceAdd, Nat.reduceMul, Int.reduceToNat, true_and, and_true, and_self, cP_eq, cP_ne, cP_lt, cP_ge, cP_gt, cP_le, eL_i, eL_l, eL_r, eL_n, Option.toList_none, Option.toList_some, List.nil_append, List.cons_append, kkI, llI, nnI, rrI, jjI, kkJ, llJ, nnJ, rrJ, iiJ, zIIs, zJJs, nEF, nET, and_false, false_and, jmin, jmax, catS_n, catS_i, catS_r, catS_l, Nat.reduceLeDiff, j1eq1, n21, jt0, jt1, Bool.false_eq_true, Classical.not_not, true_or, or_true, false_or, or_false, true_imp_iff, false_imp_iff, not_true_eq_false, not_false_eq_true, jif0, jif1, jifb, ltT, ltF, leT, leF, eqT, eqF, jlt, jle, jeq, jlt0, jle0, jeq0, jge0, jgt0, jinB, jnat, clt, cle, ceq, cgt, cge, lI_add, lI_sub, lI_mul, jadd, jsub, jmul, jneg, jtol, b010, b011, pv_2t, Int.toNat_natCast, Option.some.injEq, exists_eq_left', if_true, if_false]
            exact p89 _ dn (by rw [if_pos cy])
          · refine vs_ok 4 ?_
            rw [show ((gRes 16).drop 60).take 4 = [.iload 1, .aload 0, .getfield 1090, .if_icmp .ge 94] from rfl]
            simp (disch := omega) only [vs_if_icmp, vs_getfield, vs_aload0, vs_iload1, vs_nil, gv_0, gv_1, gv_2, gv_3, pv_0, pv_1, va_rf_s, Nat.reduceDiv, Nat.reduceMod, Nat.reduceAdd, Nat.reduceMul, Int.reduceToNat, true_and, and_true, and_self, cP_eq, cP_ne, cP_lt, cP_ge, cP_gt, cP_le, eL_i, eL_l, eL_r, eL_n, Option.toList_none, Option.toList_some, List.nil_append, List.cons_append, kkI, llI, nnI, rrI, jjI, kkJ, llJ, nnJ, rrJ, iiJ, zIIs, zJJs, nEF, nET, and_false, false_and, jmin, jmax, catS_n, catS_i, catS_r, catS_l, Nat.reduceLeDiff, j1eq1, n21, jt0, jt1, Bool.false_eq_true, Classical.not_not, true_or, or_true, false_or, or_false, true_imp_iff, false_imp_iff, not_true_eq_false, not_false_eq_true, jif0, jif1, jifb, ltT, ltF, leT, leF, eqT, eqF, jlt, jle, jeq, jlt0, jle0, jeq0, jge0, jgt0, jinB, jnat, clt, cle, ceq, cgt, cge, lI_add, lI_sub, lI_mul, jadd, jsub, jmul, jneg, jtol, b010, b011, pv_2t, Int.toNat_natCast, Option.some.injEq, exists_eq_left', if_true, if_false, N2, h92]
            refine vs_ok 14 ?_
            rw [show ((gRes 16).drop 64).take 14 = [.iinc 1 1, .aload 0, .getfield 1042, .iload 1, .aload 0, .getfield 1050, .aload 0, .getfield 1100, .isub, .aload 0, .getfield 1032, .iconst 0, .iaload, .ifCond .le 88] from rfl]
            simp (disch := omega) only [vs_isub, vs_iconst, vs_ifCond, vs_getfield, vs_iaload, vs_aload0, vs_iload1, vs_iinc1n, vs_iinc1i, vs_iinc1r, vs_iinc1l, vs_nil, gv_0, gv_1, gv_2, gv_3, pv_0, pv_1, va_rf_s, Nat.reduceDiv, Nat.reduceMod, Nat.reduceAdd, Nat.reduceMul, Int.reduceToNat, true_and, and_true, and_self, cP_eq, cP_ne, cP_lt, cP_ge, cP_gt, cP_le, eL_i, eL_l, eL_r, eL_n, Option.toList_none, Option.toList_some, List.nil_append, List.cons_append, kkI, llI, nnI, rrI, jjI, kkJ, llJ, nnJ, rrJ, iiJ, zIIs, zJJs, nEF, nET, and_false, false_and, jmin, jmax, catS_n, catS_i, catS_r, catS_l, Nat.reduceLeDiff, j1eq1, n21, jt0, jt1, Bool.false_eq_true, Classical.not_not, true_or, or_true, false_or, or_false, true_imp_iff, false_imp_iff, not_true_eq_false, not_false_eq_true, jif0, jif1, jifb, ltT, ltF, leT, leF, eqT, eqF, jlt, jle, jeq, jlt0, jle0, jeq0, jge0, jgt0, jinB, jnat, clt, cle, ceq, cgt, cge, lI_add, lI_sub, lI_mul, jadd, jsub, jmul, jneg, jtol, b010, b011, pv_2t, Int.toNat_natCast, Option.some.injEq, exists_eq_left', if_true, if_false, N2, d1, a5, a10, y0.2, t0]
            refine vs_ok 1 ?_
            rw [show ((gRes 16).drop 88).take 1 = [.iconst 0] from rfl]
            simp (disch := omega) only [vs_iconst, vs_nil, gv_0, gv_1, gv_2, gv_3, pv_0, pv_1, va_rf_s, Nat.reduceDiv, Nat.reduceMod, Nat.reduceAdd, Nat.reduceMul, Int.reduceToNat, true_and, and_true, and_self, cP_eq, cP_ne, cP_lt, cP_ge, cP_gt, cP_le, eL_i, eL_l, eL_r, eL_n, Option.toList_none, Option.toList_some, List.nil_append, List.cons_append, kkI, llI, nnI, rrI, jjI, kkJ, llJ, nnJ, rrJ, iiJ, zIIs, zJJs, nEF, nET, and_false, false_and, jmin, jmax, catS_n, catS_i, catS_r, catS_l, Nat.reduceLeDiff, j1eq1, n21, jt0, jt1, Bool.false_eq_true, Classical.not_not, true_or, or_true, false_or, or_false, true_imp_iff, false_imp_iff, not_true_eq_false, not_false_eq_true, jif0, jif1, jifb, ltT, ltF, leT, leF, eqT, eqF, jlt, jle, jeq, jlt0, jle0, jeq0, jge0, jgt0, jinB, jnat, clt, cle, ceq, cgt, cge, lI_add, lI_sub, lI_mul, jadd, jsub, jmul, jneg, jtol, b010, b011, pv_2t, Int.toNat_natCast, Option.some.injEq, exists_eq_left', if_true, if_false]
            exact p89 0 (Nat.zero_le _) (by rw [if_neg cy])
        · rw [if_neg cd] at hRR
          subst hRR
          refine vs_ok 4 ?_
          rw [show ((gRes 16).drop 60).take 4 = [.iload 1, .aload 0, .getfield 1090, .if_icmp .ge 94] from rfl]
          simp (disch := omega) only [vs_if_icmp, vs_getfield, vs_aload0, vs_iload1, vs_nil, gv_0, gv_1, gv_2, gv_3, pv_0, pv_1, va_rf_s, Nat.reduceDiv, Nat.reduceMod, Nat.reduceAdd, Nat.reduceMul, Int.reduceToNat, true_and, and_true, and_self, cP_eq, cP_ne, cP_lt, cP_ge, cP_gt, cP_le, eL_i, eL_l, eL_r, eL_n, Option.toList_none, Option.toList_some, List.nil_append, List.cons_append, kkI, llI, nnI, rrI, jjI, kkJ, llJ, nnJ, rrJ, iiJ, zIIs, zJJs, nEF, nET, and_false, false_and, jmin, jmax, catS_n, catS_i, catS_r, catS_l, Nat.reduceLeDiff, j1eq1, n21, jt0, jt1, Bool.false_eq_true, Classical.not_not, true_or, or_true, false_or, or_false, true_imp_iff, false_imp_iff, not_true_eq_false, not_false_eq_true, jif0, jif1, jifb, ltT, ltF, leT, leF, eqT, eqF, jlt, jle, jeq, jlt0, jle0, jeq0, jge0, jgt0, jinB, jnat, clt, cle, ceq, cgt, cge, lI_add, lI_sub, lI_mul, jadd, jsub, jmul, jneg, jtol, b010, b011, pv_2t, Int.toNat_natCast, Option.some.injEq, exists_eq_left', if_true, if_false, N2, h92]
          exact undo g2 _ s L 94 (Or.inr (Or.inr rfl)) rfl (List.append_nil L).symm tr0 tr1 s2 h92 j2 f02
      refine vs_ok 1 ?_
      rw [show ((gRes 16).drop 35).take 1 = [.ifCond .ne 42] from rfl]
      simp (disch := omega) only [vs_ifCond, vs_nil, gv_0, gv_1, gv_2, gv_3, pv_0, pv_1, va_rf_s, Nat.reduceDiv, Nat.reduceMod, Nat.reduceAdd, Nat.reduceMul, Int.reduceToNat, true_and, and_true, and_self, cP_eq, cP_ne, cP_lt, cP_ge, cP_gt, cP_le, eL_i, eL_l, eL_r, eL_n, Option.toList_none, Option.toList_some, List.nil_append, List.cons_append, kkI, llI, nnI, rrI, jjI, kkJ, llJ, nnJ, rrJ, iiJ, zIIs, zJJs, nEF, nET, and_false, false_and, jmin, jmax, catS_n, catS_i, catS_r, catS_l, Nat.reduceLeDiff, j1eq1, n21, jt0, jt1, Bool.false_eq_true, Classical.not_not, true_or, or_true, false_or, or_false, true_imp_iff, false_imp_iff, not_true_eq_false, not_false_eq_true, jif0, jif1, jifb, ltT, ltF, leT, leF, eqT, eqF, jlt, jle, jeq, jlt0, jle0, jeq0, jge0, jgt0, jinB, jnat, clt, cle, ceq, cgt, cge, lI_add, lI_sub, lI_mul, jadd, jsub, jmul, jneg, jtol, b010, b011, pv_2t, Int.toNat_natCast, Option.some.injEq, exists_eq_left', if_true, if_false, eq_true hbb]
      by_cases cf : sX (P ++ [r]) = p ∧ sY (P ++ [r]) = q
      · rw [if_pos cf] at hRR
        subst hRR
        have c1 := cf.1
        have c2 := cf.2
        refine vs_ok 10 ?_
        rw [show ((gRes 16).drop 42).take 10 = [.aload 0, .getfield 1100, .aload 0, .getfield 1050, .if_icmp .ne 60, .aload 0, .getfield 1110, .aload 0, .getfield 1060, .if_icmp .ne 60] from rfl]
        simp (disch := omega) only [vs_if_icmp, vs_getfield, vs_aload0, vs_nil, gv_0, gv_1, gv_2, gv_3, pv_0, pv_1, va_rf_s, Nat.reduceDiv, Nat.reduceMod, Nat.reduceAdd, Nat.reduceMul, Int.reduceToNat, true_and, and_true, and_self, cP_eq, cP_ne, cP_lt, cP_ge, cP_gt, cP_le, eL_i, eL_l, eL_r, eL_n, Option.toList_none, Option.toList_some, List.nil_append, List.cons_append, kkI, llI, nnI, rrI, jjI, kkJ, llJ, nnJ, rrJ, iiJ, zIIs, zJJs, nEF, nET, and_false, false_and, jmin, jmax, catS_n, catS_i, catS_r, catS_l, Nat.reduceLeDiff, j1eq1, n21, jt0, jt1, Bool.false_eq_true, Classical.not_not, true_or, or_true, false_or, or_false, true_imp_iff, false_imp_iff, not_true_eq_false, not_false_eq_true, jif0, jif1, jifb, ltT, ltF, leT, leF, eqT, eqF, jlt, jle, jeq, jlt0, jle0, jeq0, jge0, jgt0, jinB, jnat, clt, cle, ceq, cgt, cge, lI_add, lI_sub, lI_mul, jadd, jsub, jmul, jneg, jtol, b010, b011, pv_2t, Int.toNat_natCast, Option.some.injEq, exists_eq_left', if_true, if_false, N2, a10, a5, a11, a6]
        refine vs_ok 1 ?_
        rw [show ((gRes 16).drop 52).take 1 = [.aload 0] from rfl]
        simp (disch := omega) only [vs_aload0, vs_nil, gv_0, gv_1, gv_2, gv_3, pv_0, pv_1, va_rf_s, Nat.reduceDiv, Nat.reduceMod, Nat.reduceAdd, Nat.reduceMul, Int.reduceToNat, true_and, and_true, and_self, cP_eq, cP_ne, cP_lt, cP_ge, cP_gt, cP_le, eL_i, eL_l, eL_r, eL_n, Option.toList_none, Option.toList_some, List.nil_append, List.cons_append, kkI, llI, nnI, rrI, jjI, kkJ, llJ, nnJ, rrJ, iiJ, zIIs, zJJs, nEF, nET, and_false, false_and, jmin, jmax, catS_n, catS_i, catS_r, catS_l, Nat.reduceLeDiff, j1eq1, n21, jt0, jt1, Bool.false_eq_true, Classical.not_not, true_or, or_true, false_or, or_false, true_imp_iff, false_imp_iff, not_true_eq_false, not_false_eq_true, jif0, jif1, jifb, ltT, ltF, leT, leF, eqT, eqF, jlt, jle, jeq, jlt0, jle0, jeq0, jge0, jgt0, jinB, jnat, clt, cle, ceq, cgt, cge, lI_add, lI_sub, lI_mul, jadd, jsub, jmul, jneg, jtol, b010, b011, pv_2t, Int.toNat_natCast, Option.some.injEq, exists_eq_left', if_true, if_false]
        refine PW.iv rfl rfl rfl N2.1.1 N2.1.2.1 (le_b rfl) (le_b rfl) ?_
        refine hAdd L (P ++ [r]) g2 _ _ (by rw [app_len]; omega) cf.1 cf.2 s2 h92 j2 fun g3 f3 z3 j3 => ⟨rfl, ⟨f3.1.2.2.1, rfl⟩, ?_⟩
        exact undo g3 _ s (L ++ [P ++ [r]]) 54 (Or.inr (Or.inl rfl)) rfl rfl tr0 tr1 (s2.keep f3 (fun i hi => z3 i (by omega)) fun k k1 k2 => by omega) (by rw [z3 9 (by omega)]; exact h92) j3 (f02.tr (f3.wk fun q z => by unfold fsA; omega))
      · have := p60 cf
        by_cases c1 : sX (P ++ [r]) = p
        · have c2 : ¬ sY (P ++ [r]) = q := fun z => cf ⟨c1, z⟩
          refine vs_ok 10 ?_
          rw [show ((gRes 16).drop 42).take 10 = [.aload 0, .getfield 1100, .aload 0, .getfield 1050, .if_icmp .ne 60, .aload 0, .getfield 1110, .aload 0, .getfield 1060, .if_icmp .ne 60] from rfl]
          simp (disch := omega) only [vs_if_icmp, vs_getfield, vs_aload0, vs_nil, gv_0, gv_1, gv_2, gv_3, pv_0, pv_1, va_rf_s, Nat.reduceDiv, Nat.reduceMod, Nat.reduceAdd, Nat.reduceMul, Int.reduceToNat, true_and, and_true, and_self, cP_eq, cP_ne, cP_lt, cP_ge, cP_gt, cP_le, eL_i, eL_l, eL_r, eL_n, Option.toList_none, Option.toList_some, List.nil_append, List.cons_append, kkI, llI, nnI, rrI, jjI, kkJ, llJ, nnJ, rrJ, iiJ, zIIs, zJJs, nEF, nET, and_false, false_and, jmin, jmax, catS_n, catS_i, catS_r, catS_l, Nat.reduceLeDiff, j1eq1, n21, jt0, jt1, Bool.false_eq_true, Classical.not_not, true_or, or_true, false_or, or_false, true_imp_iff, false_imp_iff, not_true_eq_false, not_false_eq_true, jif0, jif1, jifb, ltT, ltF, leT, leF, eqT, eqF, jlt, jle, jeq, jlt0, jle0, jeq0, jge0, jgt0, jinB, jnat, clt, cle, ceq, cgt, cge, lI_add, lI_sub, lI_mul, jadd, jsub, jmul, jneg, jtol, b010, b011, pv_2t, Int.toNat_natCast, Option.some.injEq, exists_eq_left', if_true, if_false, N2, a10, a5, a11, a6]
          exact this
        · refine vs_ok 5 ?_
          rw [show ((gRes 16).drop 42).take 5 = [.aload 0, .getfield 1100, .aload 0, .getfield 1050, .if_icmp .ne 60] from rfl]
          simp (disch := omega) only [vs_if_icmp, vs_getfield, vs_aload0, vs_nil, gv_0, gv_1, gv_2, gv_3, pv_0, pv_1, va_rf_s, Nat.reduceDiv, Nat.reduceMod, Nat.reduceAdd, Nat.reduceMul, Int.reduceToNat, true_and, and_true, and_self, cP_eq, cP_ne, cP_lt, cP_ge, cP_gt, cP_le, eL_i, eL_l, eL_r, eL_n, Option.toList_none, Option.toList_some, List.nil_append, List.cons_append, kkI, llI, nnI, rrI, jjI, kkJ, llJ, nnJ, rrJ, iiJ, zIIs, zJJs, nEF, nET, and_false, false_and, jmin, jmax, catS_n, catS_i, catS_r, catS_l, Nat.reduceLeDiff, j1eq1, n21, jt0, jt1, Bool.false_eq_true, Classical.not_not, true_or, or_true, false_or, or_false, true_imp_iff, false_imp_iff, not_true_eq_false, not_false_eq_true, jif0, jif1, jifb, ltT, ltF, leT, leF, eqT, eqF, jlt, jle, jeq, jlt0, jle0, jeq0, jge0, jgt0, jinB, jnat, clt, cle, ceq, cgt, cge, lI_add, lI_sub, lI_mul, jadd, jsub, jmul, jneg, jtol, b010, b011, pv_2t, Int.toNat_natCast, Option.some.injEq, exists_eq_left', if_true, if_false, N2, a10, a5]
          exact this
    · rw [if_neg (fun y => hbb (hb.mpr y))] at hRR
      subst hRR
      refine vs_ok 1 ?_
      rw [show ((gRes 16).drop 35).take 1 = [.ifCond .ne 42] from rfl]
      simp (disch := omega) only [vs_ifCond, vs_nil, gv_0, gv_1, gv_2, gv_3, pv_0, pv_1, va_rf_s, Nat.reduceDiv, Nat.reduceMod, Nat.reduceAdd, Nat.reduceMul, Int.reduceToNat, true_and, and_true, and_self, cP_eq, cP_ne, cP_lt, cP_ge, cP_gt, cP_le, eL_i, eL_l, eL_r, eL_n, Option.toList_none, Option.toList_some, List.nil_append, List.cons_append, kkI, llI, nnI, rrI, jjI, kkJ, llJ, nnJ, rrJ, iiJ, zIIs, zJJs, nEF, nET, and_false, false_and, jmin, jmax, catS_n, catS_i, catS_r, catS_l, Nat.reduceLeDiff, j1eq1, n21, jt0, jt1, Bool.false_eq_true, Classical.not_not, true_or, or_true, false_or, or_false, true_imp_iff, false_imp_iff, not_true_eq_false, not_false_eq_true, jif0, jif1, jifb, ltT, ltF, leT, leF, eqT, eqF, jlt, jle, jeq, jlt0, jle0, jeq0, jge0, jgt0, jinB, jnat, clt, cle, ceq, cgt, cge, lI_add, lI_sub, lI_mul, jadd, jsub, jmul, jneg, jtol, b010, b011, pv_2t, Int.toNat_natCast, Option.some.injEq, exists_eq_left', if_true, if_false, eq_false hbb]
      exact undo g2 _ s L 36 (Or.inl rfl) rfl (List.append_nil L).symm tr0 tr1 s2 h92 j2 f02
  · rw [cn_up, htr] at hr
    have eW := enW_none (c := c) (p := p) (q := q) (dp := dp) (ch := ndW c p q dp hh) (P := P) t hr
    have f1' : fi (seS x) g g1 := f1.wk fun q z => by unfold seS; omega
    have e1 : zI g1 x = zI g x := f1.1.2.2.2.2.2.1 _ (by omega)
    rw [up_up2, up_up2, up_self (fX_ge (Nat.le_refl _)).1, up_self (fX_ge (Nat.le_refl _)).2] at s1
    rw [eW] at K
    refine vs_ok 1 ?_
    rw [show ((gRes 16).drop 23).take 1 = [.ifCond .ne 31] from rfl]
    simp (disch := omega) only [vs_ifCond, vs_nil, gv_0, gv_1, gv_2, gv_3, pv_0, pv_1, va_rf_s, Nat.reduceDiv, Nat.reduceMod, Nat.reduceAdd, Nat.reduceMul, Int.reduceToNat, true_and, and_true, and_self, cP_eq, cP_ne, cP_lt, cP_ge, cP_gt, cP_le, eL_i, eL_l, eL_r, eL_n, Option.toList_none, Option.toList_some, List.nil_append, List.cons_append, kkI, llI, nnI, rrI, jjI, kkJ, llJ, nnJ, rrJ, iiJ, zIIs, zJJs, nEF, nET, and_false, false_and, jmin, jmax, catS_n, catS_i, catS_r, catS_l, Nat.reduceLeDiff, j1eq1, n21, jt0, jt1, Bool.false_eq_true, Classical.not_not, true_or, or_true, false_or, or_false, true_imp_iff, false_imp_iff, not_true_eq_false, not_false_eq_true, jif0, jif1, jifb, ltT, ltF, leT, leF, eqT, eqF, jlt, jle, jeq, jlt0, jle0, jeq0, jge0, jgt0, jinB, jnat, clt, cle, ceq, cgt, cge, lI_add, lI_sub, lI_mul, jadd, jsub, jmul, jneg, jtol, b010, b011, pv_2t, Int.toNat_natCast, Option.some.injEq, exists_eq_left', if_true, if_false]
    exact K g1 tr s rfl (fun _ _ => rfl) s1 (by rw [e1]; exact h9) (by rw [List.append_nil]; exact hJ L g g1 hJL f1' fun i _ _ => by rw [e1]) (hf.tr (f1'.wk fun q z => by unfold seS at z; unfold fsA; omega))
