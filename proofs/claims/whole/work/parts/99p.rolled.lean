/-! DiceRing: partsOf, rolled, rolledBy -/
theorem gV.w1 {v : RowVal} (h : gV v) (m : Int) : v.2.2.2 m ≤ v.2.2.1 := by
  by_cases c : v.1 ≤ m ∧ m ≤ v.2.1
  · have h1 := h.1
    exact Int.le_trans (pS_ge h.2.1 (by omega) (show m < m + 1 by omega)) (pS_le h _)
  · rw [h.2.2.1 m c]
    have := h.2.2.2.2.2
    omega
theorem tpS.fi {S : Nat → Prop} {h g : Hp} {x len : Nat} {B : Nat → Int} (t : tpS h x len B) (f : fi S h g) (h1 : zI g x 1 = zI h x 1) (h2 : ¬ S (x + 1)) : tpS g x len B :=
  ⟨⟨⟨by rw [f.1.1]; exact t.1.1.1, by rw [f.1.2.2.1]; exact t.1.1.2⟩, by rw [f.2]; exact t.1.2.1, by rw [f.1.1]; exact t.1.2.2.1, by rw [f.1.2.2.1]; exact t.1.2.2.2.1, by rw [f.1.2.1]; exact t.1.2.2.2.2⟩, by rw [h1]; exact t.2.1, t.2.2.1, fun i hi => by rw [f.1.2.2.2.2.2.1 _ h2]; exact t.2.2.2.1 i hi, t.2.2.2.2⟩
/-- the parts of a die of f faces after the bytes so far -/
def ptV (W : Int → Int) (f : Int) (B : Nat → Int) : Nat → Int
  | 0 => 1000000000000000
  | i + 1 => ptV W f B i * W (B i) / f
theorem ptV_b {W : Int → Int} {f : Int} {B : Nat → Int} (hf : 0 < f) (hW : ∀ m, 0 ≤ W m ∧ W m ≤ f) : ∀ i, 0 ≤ ptV W f B i ∧ ptV W f B i ≤ 1000000000000000
  | 0 => by show 0 ≤ (1000000000000000 : Int) ∧ (1000000000000000 : Int) ≤ 1000000000000000; omega
  | i + 1 => by
    have ih := ptV_b hf hW (B := B) i
    have w := hW (B i)
    have p0 := Int.mul_nonneg ih.1 w.1
    have p1 := Int.mul_le_mul_of_nonneg_left w.2 ih.1
    refine ⟨Int.ediv_nonneg p0 (by omega), ?_⟩
    have := Int.ediv_le_ediv hf p1
    rw [Int.mul_ediv_cancel _ (show f ≠ 0 by omega)] at this
    exact Int.le_trans this ih.2
/-- of a NAME -/
abbrev paV (nm : Int) (F : Nat → Int) (V : Nat → RowVal) (B : Nat → Int) (len : Nat) (k : Int) : Int := if (0 ≤ k ∧ k < nm) ∧ F k.toNat ≠ 0 then ptV (V k.toNat).2.2.2 (F k.toNat) B len else 0
theorem paV_b {nm : Int} {F : Nat → Int} {V : Nat → RowVal} {B : Nat → Int} (hF : ∀ i : Nat, (i : Int) < nm → 0 ≤ F i ∧ F i ≤ 12) (hnm : nm ≤ 12) (hg : ∀ k : Nat, (k : Int) < nm → gV (V k)) (hFV : ∀ k : Nat, (k : Int) < nm → 0 < F k → 0 ≤ (V k).1 ∧ (V k).2.1 ≤ 60 ∧ (V k).2.2.1 = F k) (len : Nat) (k : Int) : 0 ≤ paV nm F V B len k ∧ paV nm F V B len k ≤ 1000000000000000 := by
  unfold paV
  split
  · rename_i c
    have f := hF k.toNat (by omega)
    have g := hg k.toNat (by omega)
    have e := hFV k.toNat (by omega) (by omega)
    exact ptV_b (by omega) (fun m => ⟨g.2.1 m, by have := g.w1 m; omega⟩) len
  · omega
theorem t_partsOf {d : Nat} {h : Hp} {x t l len : Nat} {nm k : Int} {B F Wd : Nat → Int} {V : Nat → RowVal} {Q : Nat → Option Value → Hp → Prop} (ht : tpS h x l B) (h2 : zR h x 2 = some t) (hb : isTb h t nm F Wd) (hF : ∀ i : Nat, (i : Int) < nm → 0 ≤ F i ∧ F i ≤ 12) (hv : ∀ k, k < 12 → rowP h (t + 4 + 2 * k) 200 (V k)) (hg : ∀ k : Nat, (k : Int) < nm → gV (V k)) (hFV : ∀ k : Nat, (k : Int) < nm → 0 < F k → 0 ≤ (V k).1 ∧ (V k).2.1 ≤ 60 ∧ (V k).2.2.1 = F k) (hk : i32 k) (hl : len ≤ 20) (hq : Q 0 (some (.long (lI (paV nm F V B len k)))) h) : PR (d + 1) m_D_partsOf [.ref x, .int (iI k), .int (iI len)] h Q := by
  have N := ht.1
  have hx := ht.2.2.2.1
  have hbb := ht.2.2.2.2
  have b1 := hb.1
  have b2 := hb.2.1
  have b3 := hb.2.2.2.2.2
  have k1 := hk.1
  have k2 := hk.2
  show PW (d + 1) 174 0 [some (.ref x), some (.int (iI k)), some (.int (iI len)), none, none, none, none, none] [] h Q
  have no : ∀ o, ¬ ((0 ≤ k ∧ k < nm) ∧ F k.toNat ≠ 0) → PW (d + 1) 174 11 [some (.ref x), some (.int (iI k)), some (.int (iI len)), o, none, none, none, none] [.int (iI 0)] h Q := fun o c => by
    rw [paV, if_neg c] at hq
    refine vs_ok 3 ?_
    rw [show ((gRes 174).drop 11).take 3 = [.istore 3, .iload 3, .ifCond .ne 16] from rfl]
    simp (disch := omega) only [vs_ifCond, vs_iload3, vs_istore3n, vs_istore3i, vs_istore3r, vs_istore3l, vs_nil, gv_0, gv_1, gv_2, gv_3, pv_0, pv_1, va_rf_s, Nat.reduceDiv, Nat.reduceMod, Nat.reduceAdd, Nat.reduceMul, Int.reduceToNat, true_and, and_true, and_self, cP_eq, cP_ne, cP_lt, cP_ge, cP_gt, cP_le, eL_i, eL_l, eL_r, eL_n, Option.toList_none, Option.toList_some, List.nil_append, List.cons_append, kkI, llI, nnI, rrI, jjI, kkJ, llJ, nnJ, rrJ, iiJ, zIIs, zJJs, nEF, nET, and_false, false_and, jmin, jmax, catS_n, catS_i, catS_r, catS_l, Nat.reduceLeDiff, j1eq1, n21, jt0, jt1, Bool.false_eq_true, Classical.not_not, true_or, or_true, false_or, or_false, true_imp_iff, false_imp_iff, not_true_eq_false, not_false_eq_true, jif0, jif1, jifb, ltT, ltF, leT, leF, eqT, eqF, jlt, jle, jeq, jlt0, jle0, jeq0, jge0, jgt0, jinB, jnat, clt, cle, ceq, cgt, cge, lI_add, lI_sub, lI_mul, jadd, jsub, jmul, jneg, jtol, b010, b011, pv_2t, Int.toNat_natCast, Option.some.injEq, exists_eq_left', if_true, if_false]
    refine vs_ok 2 ?_
    rw [show ((gRes 174).drop 14).take 2 = [.jsr_w 0, .lreturn] from rfl]
    simp (disch := omega) only [vs_jsr_w, vs_lreturn, vs_nil, gv_0, gv_1, gv_2, gv_3, pv_0, pv_1, va_rf_s, Nat.reduceDiv, Nat.reduceMod, Nat.reduceAdd, Nat.reduceMul, Int.reduceToNat, true_and, and_true, and_self, cP_eq, cP_ne, cP_lt, cP_ge, cP_gt, cP_le, eL_i, eL_l, eL_r, eL_n, Option.toList_none, Option.toList_some, List.nil_append, List.cons_append, kkI, llI, nnI, rrI, jjI, kkJ, llJ, nnJ, rrJ, iiJ, zIIs, zJJs, nEF, nET, and_false, false_and, jmin, jmax, catS_n, catS_i, catS_r, catS_l, Nat.reduceLeDiff, j1eq1, n21, jt0, jt1, Bool.false_eq_true, Classical.not_not, true_or, or_true, false_or, or_false, true_imp_iff, false_imp_iff, not_true_eq_false, not_false_eq_true, jif0, jif1, jifb, ltT, ltF, leT, leF, eqT, eqF, jlt, jle, jeq, jlt0, jle0, jeq0, jge0, jgt0, jinB, jnat, clt, cle, ceq, cgt, cge, lI_add, lI_sub, lI_mul, jadd, jsub, jmul, jneg, jtol, b010, b011, pv_2t, Int.toNat_natCast, Option.some.injEq, exists_eq_left', if_true, if_false, show gRc 174 = 3 from rfl]
    exact hq
  refine vs_ok 3 ?_
  rw [show ((gRes 174).drop 0).take 3 = [.aload 0, .getfield 11022, .iload 1] from rfl]
  simp (disch := omega) only [vs_getfield, vs_aload0, vs_iload1, vs_nil, gv_0, gv_1, gv_2, gv_3, pv_0, pv_1, va_rf_s, Nat.reduceDiv, Nat.reduceMod, Nat.reduceAdd, Nat.reduceMul, Int.reduceToNat, true_and, and_true, and_self, cP_eq, cP_ne, cP_lt, cP_ge, cP_gt, cP_le, eL_i, eL_l, eL_r, eL_n, Option.toList_none, Option.toList_some, List.nil_append, List.cons_append, kkI, llI, nnI, rrI, jjI, kkJ, llJ, nnJ, rrJ, iiJ, zIIs, zJJs, nEF, nET, and_false, false_and, jmin, jmax, catS_n, catS_i, catS_r, catS_l, Nat.reduceLeDiff, j1eq1, n21, jt0, jt1, Bool.false_eq_true, Classical.not_not, true_or, or_true, false_or, or_false, true_imp_iff, false_imp_iff, not_true_eq_false, not_false_eq_true, jif0, jif1, jifb, ltT, ltF, leT, leF, eqT, eqF, jlt, jle, jeq, jlt0, jle0, jeq0, jge0, jgt0, jinB, jnat, clt, cle, ceq, cgt, cge, lI_add, lI_sub, lI_mul, jadd, jsub, jmul, jneg, jtol, b010, b011, pv_2t, Int.toNat_natCast, Option.some.injEq, exists_eq_left', if_true, if_false, N, h2]
  refine PW.iv rfl rfl rfl b1 (by omega) (le_b rfl) (le_b rfl) ?_
  refine t_hasI hb hk ⟨rfl, ⟨rfl, rfl⟩, ?_⟩
  by_cases ck : 0 ≤ k ∧ k < nm
  · rw [if_pos ck]
    have fb := hF k.toNat (by omega)
    refine vs_ok 4 ?_
    rw [show ((gRes 174).drop 4).take 4 = [.ifCond .eq 10, .aload 0, .getfield 11022, .iload 1] from rfl]
    simp (disch := omega) only [vs_ifCond, vs_getfield, vs_aload0, vs_iload1, vs_nil, gv_0, gv_1, gv_2, gv_3, pv_0, pv_1, va_rf_s, Nat.reduceDiv, Nat.reduceMod, Nat.reduceAdd, Nat.reduceMul, Int.reduceToNat, true_and, and_true, and_self, cP_eq, cP_ne, cP_lt, cP_ge, cP_gt, cP_le, eL_i, eL_l, eL_r, eL_n, Option.toList_none, Option.toList_some, List.nil_append, List.cons_append, kkI, llI, nnI, rrI, jjI, kkJ, llJ, nnJ, rrJ, iiJ, zIIs, zJJs, nEF, nET, and_false, false_and, jmin, jmax, catS_n, catS_i, catS_r, catS_l, Nat.reduceLeDiff, j1eq1, n21, jt0, jt1, Bool.false_eq_true, Classical.not_not, true_or, or_true, false_or, or_false, true_imp_iff, false_imp_iff, not_true_eq_false, not_false_eq_true, jif0, jif1, jifb, ltT, ltF, leT, leF, eqT, eqF, jlt, jle, jeq, jlt0, jle0, jeq0, jge0, jgt0, jinB, jnat, clt, cle, ceq, cgt, cge, lI_add, lI_sub, lI_mul, jadd, jsub, jmul, jneg, jtol, b010, b011, pv_2t, Int.toNat_natCast, Option.some.injEq, exists_eq_left', if_true, if_false, N, h2]
    refine PW.iv rfl rfl rfl b1 (by omega) (le_b rfl) (le_b rfl) ?_
    refine t_facesOf hb hk ⟨rfl, ⟨rfl, rfl⟩, ?_⟩
    rw [if_pos (show 0 ≤ k ∧ k < 12 by omega)]
    by_cases f0 : F k.toNat = 0
    · rw [f0]
      refine vs_ok 1 ?_
      rw [show ((gRes 174).drop 9).take 1 = [.goto 11] from rfl]
      simp (disch := omega) only [vs_goto, vs_nil, gv_0, gv_1, gv_2, gv_3, pv_0, pv_1, va_rf_s, Nat.reduceDiv, Nat.reduceMod, Nat.reduceAdd, Nat.reduceMul, Int.reduceToNat, true_and, and_true, and_self, cP_eq, cP_ne, cP_lt, cP_ge, cP_gt, cP_le, eL_i, eL_l, eL_r, eL_n, Option.toList_none, Option.toList_some, List.nil_append, List.cons_append, kkI, llI, nnI, rrI, jjI, kkJ, llJ, nnJ, rrJ, iiJ, zIIs, zJJs, nEF, nET, and_false, false_and, jmin, jmax, catS_n, catS_i, catS_r, catS_l, Nat.reduceLeDiff, j1eq1, n21, jt0, jt1, Bool.false_eq_true, Classical.not_not, true_or, or_true, false_or, or_false, true_imp_iff, false_imp_iff, not_true_eq_false, not_false_eq_true, jif0, jif1, jifb, ltT, ltF, leT, leF, eqT, eqF, jlt, jle, jeq, jlt0, jle0, jeq0, jge0, jgt0, jinB, jnat, clt, cle, ceq, cgt, cge, lI_add, lI_sub, lI_mul, jadd, jsub, jmul, jneg, jtol, b010, b011, pv_2t, Int.toNat_natCast, Option.some.injEq, exists_eq_left', if_true, if_false]
      exact no _ fun z => z.2 f0
    · rw [paV, if_pos ⟨ck, f0⟩] at hq
      have gk := hg k.toNat (by omega)
      have ge := hFV k.toNat (by omega) (by omega)
      have wb : ∀ m, 0 ≤ (V k.toNat).2.2.2 m ∧ (V k.toNat).2.2.2 m ≤ F k.toNat := fun m => ⟨gk.2.1 m, by have := gk.w1 m; omega⟩
      have R := hv k.toNat (by omega)
      generalize hf : F k.toNat = f at *
      refine vs_ok 1 ?_
      rw [show ((gRes 174).drop 9).take 1 = [.goto 11] from rfl]
      simp (disch := omega) only [vs_goto, vs_nil, gv_0, gv_1, gv_2, gv_3, pv_0, pv_1, va_rf_s, Nat.reduceDiv, Nat.reduceMod, Nat.reduceAdd, Nat.reduceMul, Int.reduceToNat, true_and, and_true, and_self, cP_eq, cP_ne, cP_lt, cP_ge, cP_gt, cP_le, eL_i, eL_l, eL_r, eL_n, Option.toList_none, Option.toList_some, List.nil_append, List.cons_append, kkI, llI, nnI, rrI, jjI, kkJ, llJ, nnJ, rrJ, iiJ, zIIs, zJJs, nEF, nET, and_false, false_and, jmin, jmax, catS_n, catS_i, catS_r, catS_l, Nat.reduceLeDiff, j1eq1, n21, jt0, jt1, Bool.false_eq_true, Classical.not_not, true_or, or_true, false_or, or_false, true_imp_iff, false_imp_iff, not_true_eq_false, not_false_eq_true, jif0, jif1, jifb, ltT, ltF, leT, leF, eqT, eqF, jlt, jle, jeq, jlt0, jle0, jeq0, jge0, jgt0, jinB, jnat, clt, cle, ceq, cgt, cge, lI_add, lI_sub, lI_mul, jadd, jsub, jmul, jneg, jtol, b010, b011, pv_2t, Int.toNat_natCast, Option.some.injEq, exists_eq_left', if_true, if_false]
      refine vs_ok 3 ?_
      rw [show ((gRes 174).drop 11).take 3 = [.istore 3, .iload 3, .ifCond .ne 16] from rfl]
      simp (disch := omega) only [vs_ifCond, vs_iload3, vs_istore3n, vs_istore3i, vs_istore3r, vs_istore3l, vs_nil, gv_0, gv_1, gv_2, gv_3, pv_0, pv_1, va_rf_s, Nat.reduceDiv, Nat.reduceMod, Nat.reduceAdd, Nat.reduceMul, Int.reduceToNat, true_and, and_true, and_self, cP_eq, cP_ne, cP_lt, cP_ge, cP_gt, cP_le, eL_i, eL_l, eL_r, eL_n, Option.toList_none, Option.toList_some, List.nil_append, List.cons_append, kkI, llI, nnI, rrI, jjI, kkJ, llJ, nnJ, rrJ, iiJ, zIIs, zJJs, nEF, nET, and_false, false_and, jmin, jmax, catS_n, catS_i, catS_r, catS_l, Nat.reduceLeDiff, j1eq1, n21, jt0, jt1, Bool.false_eq_true, Classical.not_not, true_or, or_true, false_or, or_false, true_imp_iff, false_imp_iff, not_true_eq_false, not_false_eq_true, jif0, jif1, jifb, ltT, ltF, leT, leF, eqT, eqF, jlt, jle, jeq, jlt0, jle0, jeq0, jge0, jgt0, jinB, jnat, clt, cle, ceq, cgt, cge, lI_add, lI_sub, lI_mul, jadd, jsub, jmul, jneg, jtol, b010, b011, pv_2t, Int.toNat_natCast, Option.some.injEq, exists_eq_left', if_true, if_false]
      refine vs_ok 3 ?_
      rw [show ((gRes 174).drop 16).take 3 = [.aload 0, .getfield 11022, .iload 1] from rfl]
      simp (disch := omega) only [vs_getfield, vs_aload0, vs_iload1, vs_nil, gv_0, gv_1, gv_2, gv_3, pv_0, pv_1, va_rf_s, Nat.reduceDiv, Nat.reduceMod, Nat.reduceAdd, Nat.reduceMul, Int.reduceToNat, true_and, and_true, and_self, cP_eq, cP_ne, cP_lt, cP_ge, cP_gt, cP_le, eL_i, eL_l, eL_r, eL_n, Option.toList_none, Option.toList_some, List.nil_append, List.cons_append, kkI, llI, nnI, rrI, jjI, kkJ, llJ, nnJ, rrJ, iiJ, zIIs, zJJs, nEF, nET, and_false, false_and, jmin, jmax, catS_n, catS_i, catS_r, catS_l, Nat.reduceLeDiff, j1eq1, n21, jt0, jt1, Bool.false_eq_true, Classical.not_not, true_or, or_true, false_or, or_false, true_imp_iff, false_imp_iff, not_true_eq_false, not_false_eq_true, jif0, jif1, jifb, ltT, ltF, leT, leF, eqT, eqF, jlt, jle, jeq, jlt0, jle0, jeq0, jge0, jgt0, jinB, jnat, clt, cle, ceq, cgt, cge, lI_add, lI_sub, lI_mul, jadd, jsub, jmul, jneg, jtol, b010, b011, pv_2t, Int.toNat_natCast, Option.some.injEq, exists_eq_left', if_true, if_false, N, h2]
      refine PW.iv rfl rfl rfl b1 (by omega) (le_b rfl) (le_b rfl) ?_
      refine t_rowI hb hk ck ⟨rfl, ⟨rfl, rok (by omega)⟩, ?_⟩
      generalize t + 4 + 2 * k.toNat = ro at *
      have lp : ∀ (j i : Nat), j + i = len → PW (d + 1) 174 25 [some (.ref x), some (.int (iI k)), some (.int (iI len)), some (.int (iI f)), some (.ref ro), some (.long (lI (ptV (V k.toNat).2.2.2 f B i))), none, some (.int (iI i))] [] h Q := by
        intro j
        induction j with
        | zero =>
          intro i hi
          have e : i = len := by omega
          subst e
          refine vs_ok 3 ?_
          rw [show ((gRes 174).drop 25).take 3 = [.iload 7, .iload 2, .if_icmp .ge 41] from rfl]
          simp (disch := omega) only [vs_if_icmp, vs_iload2, vs_iload7, vs_nil, gv_0, gv_1, gv_2, gv_3, pv_0, pv_1, va_rf_s, Nat.reduceDiv, Nat.reduceMod, Nat.reduceAdd, Nat.reduceMul, Int.reduceToNat, true_and, and_true, and_self, cP_eq, cP_ne, cP_lt, cP_ge, cP_gt, cP_le, eL_i, eL_l, eL_r, eL_n, Option.toList_none, Option.toList_some, List.nil_append, List.cons_append, kkI, llI, nnI, rrI, jjI, kkJ, llJ, nnJ, rrJ, iiJ, zIIs, zJJs, nEF, nET, and_false, false_and, jmin, jmax, catS_n, catS_i, catS_r, catS_l, Nat.reduceLeDiff, j1eq1, n21, jt0, jt1, Bool.false_eq_true, Classical.not_not, true_or, or_true, false_or, or_false, true_imp_iff, false_imp_iff, not_true_eq_false, not_false_eq_true, jif0, jif1, jifb, ltT, ltF, leT, leF, eqT, eqF, jlt, jle, jeq, jlt0, jle0, jeq0, jge0, jgt0, jinB, jnat, clt, cle, ceq, cgt, cge, lI_add, lI_sub, lI_mul, jadd, jsub, jmul, jneg, jtol, b010, b011, pv_2t, Int.toNat_natCast, Option.some.injEq, exists_eq_left', if_true, if_false]
          refine vs_ok 2 ?_
          rw [show ((gRes 174).drop 41).take 2 = [.lload 5, .lreturn] from rfl]
          simp (disch := omega) only [vs_lreturn, vs_lload5, vs_nil, gv_0, gv_1, gv_2, gv_3, pv_0, pv_1, va_rf_s, Nat.reduceDiv, Nat.reduceMod, Nat.reduceAdd, Nat.reduceMul, Int.reduceToNat, true_and, and_true, and_self, cP_eq, cP_ne, cP_lt, cP_ge, cP_gt, cP_le, eL_i, eL_l, eL_r, eL_n, Option.toList_none, Option.toList_some, List.nil_append, List.cons_append, kkI, llI, nnI, rrI, jjI, kkJ, llJ, nnJ, rrJ, iiJ, zIIs, zJJs, nEF, nET, and_false, false_and, jmin, jmax, catS_n, catS_i, catS_r, catS_l, Nat.reduceLeDiff, j1eq1, n21, jt0, jt1, Bool.false_eq_true, Classical.not_not, true_or, or_true, false_or, or_false, true_imp_iff, false_imp_iff, not_true_eq_false, not_false_eq_true, jif0, jif1, jifb, ltT, ltF, leT, leF, eqT, eqF, jlt, jle, jeq, jlt0, jle0, jeq0, jge0, jgt0, jinB, jnat, clt, cle, ceq, cgt, cge, lI_add, lI_sub, lI_mul, jadd, jsub, jmul, jneg, jtol, b010, b011, pv_2t, Int.toNat_natCast, Option.some.injEq, exists_eq_left', if_true, if_false, show gRc 174 = 3 from rfl]
          exact hq
        | succ j ih =>
          intro i hi
          have bi := hbb i
          have pb := ptV_b (B := B) (show 0 < f by omega) wb i
          have w := wb (B i)
          have m0 := Int.mul_nonneg pb.1 w.1
          have m1 := Int.mul_le_mul pb.2 (show (V k.toNat).2.2.2 (B i) ≤ 12 by omega) w.1 (by omega)
          have z := ih (i + 1) (by omega)
          have e : ptV (V k.toNat).2.2.2 f B (i + 1) = ptV (V k.toNat).2.2.2 f B i * (V k.toNat).2.2.2 (B i) / f := rfl
          rw [e] at z
          generalize ptV (V k.toNat).2.2.2 f B i = p at *
          generalize hw : (V k.toNat).2.2.2 (B i) = u at *
          refine vs_ok 3 ?_
          rw [show ((gRes 174).drop 25).take 3 = [.iload 7, .iload 2, .if_icmp .ge 41] from rfl]
          simp (disch := omega) only [vs_if_icmp, vs_iload2, vs_iload7, vs_nil, gv_0, gv_1, gv_2, gv_3, pv_0, pv_1, va_rf_s, Nat.reduceDiv, Nat.reduceMod, Nat.reduceAdd, Nat.reduceMul, Int.reduceToNat, true_and, and_true, and_self, cP_eq, cP_ne, cP_lt, cP_ge, cP_gt, cP_le, eL_i, eL_l, eL_r, eL_n, Option.toList_none, Option.toList_some, List.nil_append, List.cons_append, kkI, llI, nnI, rrI, jjI, kkJ, llJ, nnJ, rrJ, iiJ, zIIs, zJJs, nEF, nET, and_false, false_and, jmin, jmax, catS_n, catS_i, catS_r, catS_l, Nat.reduceLeDiff, j1eq1, n21, jt0, jt1, Bool.false_eq_true, Classical.not_not, true_or, or_true, false_or, or_false, true_imp_iff, false_imp_iff, not_true_eq_false, not_false_eq_true, jif0, jif1, jifb, ltT, ltF, leT, leF, eqT, eqF, jlt, jle, jeq, jlt0, jle0, jeq0, jge0, jgt0, jinB, jnat, clt, cle, ceq, cgt, cge, lI_add, lI_sub, lI_mul, jadd, jsub, jmul, jneg, jtol, b010, b011, pv_2t, Int.toNat_natCast, Option.some.injEq, exists_eq_left', if_true, if_false]
          refine vs_ok 4 ?_
          rw [show ((gRes 174).drop 28).take 4 = [.lload 5, .aload 4, .aload 0, .iload 7] from rfl]
          simp (disch := omega) only [vs_aload0, vs_aload4, vs_lload5, vs_iload7, vs_nil, gv_0, gv_1, gv_2, gv_3, pv_0, pv_1, va_rf_s, Nat.reduceDiv, Nat.reduceMod, Nat.reduceAdd, Nat.reduceMul, Int.reduceToNat, true_and, and_true, and_self, cP_eq, cP_ne, cP_lt, cP_ge, cP_gt, cP_le, eL_i, eL_l, eL_r, eL_n, Option.toList_none, Option.toList_some, List.nil_append, List.cons_append, kkI, llI, nnI, rrI, jjI, kkJ, llJ, nnJ, rrJ, iiJ, zIIs, zJJs, nEF, nET, and_false, false_and, jmin, jmax, catS_n, catS_i, catS_r, catS_l, Nat.reduceLeDiff, j1eq1, n21, jt0, jt1, Bool.false_eq_true, Classical.not_not, true_or, or_true, false_or, or_false, true_imp_iff, false_imp_iff, not_true_eq_false, not_false_eq_true, jif0, jif1, jifb, ltT, ltF, leT, leF, eqT, eqF, jlt, jle, jeq, jlt0, jle0, jeq0, jge0, jgt0, jinB, jnat, clt, cle, ceq, cgt, cge, lI_add, lI_sub, lI_mul, jadd, jsub, jmul, jneg, jtol, b010, b011, pv_2t, Int.toNat_natCast, Option.some.injEq, exists_eq_left', if_true, if_false]
          refine PW.iv rfl rfl rfl N.1.1 N.1.2 (le_b rfl) (le_b rfl) ?_
          refine t_tapeAt ht (by omega) ⟨rfl, ⟨rfl, rfl⟩, ?_⟩
          refine PW.iv rfl rfl rfl R.1.1 R.1.2.1 (le_b rfl) (le_b rfl) ?_
          refine t_atW R (by constructor <;> omega) ⟨rfl, ⟨rfl, rfl⟩, ?_⟩
          rw [hw]
          generalize hM : p * u = M at *
          refine vs_ok 7 ?_
          rw [show ((gRes 174).drop 34).take 7 = [.lmul, .iload 3, .i2l, .ldiv, .lstore 5, .iinc 7 1, .goto 25] from rfl]
          simp (disch := omega) only [vs_lmul, vs_i2l, vs_ldiv, vs_goto, vs_iload3, vs_lstore5n, vs_lstore5i, vs_lstore5r, vs_lstore5l, vs_iinc7n, vs_iinc7i, vs_iinc7r, vs_iinc7l, vs_nil, gv_0, gv_1, gv_2, gv_3, pv_0, pv_1, va_rf_s, Nat.reduceDiv, Nat.reduceMod, Nat.reduceAdd, Nat.reduceMul, Int.reduceToNat, true_and, and_true, and_self, cP_eq, cP_ne, cP_lt, cP_ge, cP_gt, cP_le, eL_i, eL_l, eL_r, eL_n, Option.toList_none, Option.toList_some, List.nil_append, List.cons_append, kkI, llI, nnI, rrI, jjI, kkJ, llJ, nnJ, rrJ, iiJ, zIIs, zJJs, nEF, nET, and_false, false_and, jmin, jmax, catS_n, catS_i, catS_r, catS_l, Nat.reduceLeDiff, j1eq1, n21, jt0, jt1, Bool.false_eq_true, Classical.not_not, true_or, or_true, false_or, or_false, true_imp_iff, false_imp_iff, not_true_eq_false, not_false_eq_true, jif0, jif1, jifb, ltT, ltF, leT, leF, eqT, eqF, jlt, jle, jeq, jlt0, jle0, jeq0, jge0, jgt0, jinB, jnat, clt, cle, ceq, cgt, cge, lI_add, lI_sub, lI_mul, jadd, jsub, jmul, jneg, jtol, b010, b011, pv_2t, Int.toNat_natCast, Option.some.injEq, exists_eq_left', if_true, if_false, hM, jldiv, jl0]
          exact z
      refine vs_ok 5 ?_
      rw [show ((gRes 174).drop 20).take 5 = [.astore 4, .jsr_w 1000000000000000, .lstore 5, .iconst 0, .istore 7] from rfl]
      simp (disch := omega) only [vs_iconst, vs_jsr_w, vs_astore4n, vs_astore4i, vs_astore4r, vs_astore4l, vs_lstore5n, vs_lstore5i, vs_lstore5r, vs_lstore5l, vs_istore7n, vs_istore7i, vs_istore7r, vs_istore7l, vs_nil, gv_0, gv_1, gv_2, gv_3, pv_0, pv_1, va_rf_s, Nat.reduceDiv, Nat.reduceMod, Nat.reduceAdd, Nat.reduceMul, Int.reduceToNat, true_and, and_true, and_self, cP_eq, cP_ne, cP_lt, cP_ge, cP_gt, cP_le, eL_i, eL_l, eL_r, eL_n, Option.toList_none, Option.toList_some, List.nil_append, List.cons_append, kkI, llI, nnI, rrI, jjI, kkJ, llJ, nnJ, rrJ, iiJ, zIIs, zJJs, nEF, nET, and_false, false_and, jmin, jmax, catS_n, catS_i, catS_r, catS_l, Nat.reduceLeDiff, j1eq1, n21, jt0, jt1, Bool.false_eq_true, Classical.not_not, true_or, or_true, false_or, or_false, true_imp_iff, false_imp_iff, not_true_eq_false, not_false_eq_true, jif0, jif1, jifb, ltT, ltF, leT, leF, eqT, eqF, jlt, jle, jeq, jlt0, jle0, jeq0, jge0, jgt0, jinB, jnat, clt, cle, ceq, cgt, cge, lI_add, lI_sub, lI_mul, jadd, jsub, jmul, jneg, jtol, b010, b011, pv_2t, Int.toNat_natCast, Option.some.injEq, exists_eq_left', if_true, if_false]
      exact lp len 0 rfl
  · rw [if_neg ck]
    refine vs_ok 1 ?_
    rw [show ((gRes 174).drop 4).take 1 = [.ifCond .eq 10] from rfl]
    simp (disch := omega) only [vs_ifCond, vs_nil, gv_0, gv_1, gv_2, gv_3, pv_0, pv_1, va_rf_s, Nat.reduceDiv, Nat.reduceMod, Nat.reduceAdd, Nat.reduceMul, Int.reduceToNat, true_and, and_true, and_self, cP_eq, cP_ne, cP_lt, cP_ge, cP_gt, cP_le, eL_i, eL_l, eL_r, eL_n, Option.toList_none, Option.toList_some, List.nil_append, List.cons_append, kkI, llI, nnI, rrI, jjI, kkJ, llJ, nnJ, rrJ, iiJ, zIIs, zJJs, nEF, nET, and_false, false_and, jmin, jmax, catS_n, catS_i, catS_r, catS_l, Nat.reduceLeDiff, j1eq1, n21, jt0, jt1, Bool.false_eq_true, Classical.not_not, true_or, or_true, false_or, or_false, true_imp_iff, false_imp_iff, not_true_eq_false, not_false_eq_true, jif0, jif1, jifb, ltT, ltF, leT, leF, eqT, eqF, jlt, jle, jeq, jlt0, jle0, jeq0, jge0, jgt0, jinB, jnat, clt, cle, ceq, cgt, cge, lI_add, lI_sub, lI_mul, jadd, jsub, jmul, jneg, jtol, b010, b011, pv_2t, Int.toNat_natCast, Option.some.injEq, exists_eq_left', if_true, if_false]
    refine vs_ok 1 ?_
    rw [show ((gRes 174).drop 10).take 1 = [.iconst 0] from rfl]
    simp (disch := omega) only [vs_iconst, vs_nil, gv_0, gv_1, gv_2, gv_3, pv_0, pv_1, va_rf_s, Nat.reduceDiv, Nat.reduceMod, Nat.reduceAdd, Nat.reduceMul, Int.reduceToNat, true_and, and_true, and_self, cP_eq, cP_ne, cP_lt, cP_ge, cP_gt, cP_le, eL_i, eL_l, eL_r, eL_n, Option.toList_none, Option.toList_some, List.nil_append, List.cons_append, kkI, llI, nnI, rrI, jjI, kkJ, llJ, nnJ, rrJ, iiJ, zIIs, zJJs, nEF, nET, and_false, false_and, jmin, jmax, catS_n, catS_i, catS_r, catS_l, Nat.reduceLeDiff, j1eq1, n21, jt0, jt1, Bool.false_eq_true, Classical.not_not, true_or, or_true, false_or, or_false, true_imp_iff, false_imp_iff, not_true_eq_false, not_false_eq_true, jif0, jif1, jifb, ltT, ltF, leT, leF, eqT, eqF, jlt, jle, jeq, jlt0, jle0, jeq0, jge0, jgt0, jinB, jnat, clt, cle, ceq, cgt, cge, lI_add, lI_sub, lI_mul, jadd, jsub, jmul, jneg, jtol, b010, b011, pv_2t, Int.toNat_natCast, Option.some.injEq, exists_eq_left', if_true, if_false]
    exact no _ fun z => ck z.1
/-- the best of the first parts, and its part -/
def bsF (p : Nat → Int) : Nat → Int × Int
  | 0 => (-1, 0)
  | k + 1 => if (bsF p k).2 < p k then ((k : Nat), p k) else bsF p k
theorem bsF_b {p : Nat → Int} (hp : ∀ k, 0 ≤ p k ∧ p k ≤ 1000000000000000) : ∀ k, (-1 ≤ (bsF p k).1 ∧ (bsF p k).1 < k) ∧ 0 ≤ (bsF p k).2 ∧ (bsF p k).2 ≤ 1000000000000000
  | 0 => by show (-1 ≤ (-1 : Int) ∧ (-1 : Int) < (0 : Nat)) ∧ (0 : Int) ≤ 0 ∧ (0 : Int) ≤ 1000000000000000; omega
  | k + 1 => by
    have := bsF_b hp k
    have := hp k
    unfold bsF
    split
    · show (-1 ≤ ((k : Nat) : Int) ∧ ((k : Nat) : Int) < ((k + 1 : Nat) : Int)) ∧ 0 ≤ p k ∧ p k ≤ 1000000000000000
      omega
    · omega
abbrev rlP (B : Nat → Int) (len : Nat) : Prop := (1 ≤ len ∧ len ≤ 20) ∧ ∀ i, i < len → B i ≤ 60
theorem t_rolled {d : Nat} {h : Hp} {x t len : Nat} {nm : Int} {B F Wd : Nat → Int} {V : Nat → RowVal} {Q : Nat → Option Value → Hp → Prop} (ht : tpS h x len B) (h2 : zR h x 2 = some t) (y11 : zR h x 11 = some (x + 153) ∧ zK h (x + 153) = 15 ∧ x + 153 < zN h ∧ zL h (x + 153) = 12) (hb : isTb h t nm F Wd) (hd : x < t ∧ t + 28 ≤ x + 117) (hF : ∀ i : Nat, (i : Int) < nm → 0 ≤ F i ∧ F i ≤ 12) (hv : ∀ k, k < 12 → rowP h (t + 4 + 2 * k) 200 (V k)) (hg : ∀ k : Nat, (k : Int) < nm → gV (V k)) (hFV : ∀ k : Nat, (k : Int) < nm → 0 < F k → 0 ≤ (V k).1 ∧ (V k).2.1 ≤ 60 ∧ (V k).2.2.1 = F k)
    (q0 : ¬ rlP B len → ∀ g, fi (fun q => q = x) h g → tpS g x 0 B → (∀ i, i ≠ 1 → zI g x i = zI h x i) → Q 0 (some (.int (iI (-1)))) g)
    (q1 : rlP B len → ∀ g, fi (fun q => q = x ∨ q = x + 153) h g → tpS g x 0 B → (∀ i, i ≠ 1 → zI g x i = zI h x i) → (∀ k : Nat, k < 12 → zJ g (x + 153) k = lI (paV nm F V B len k)) → Q 0 (some (.int (iI (bsF (fun k => paV nm F V B len (k : Nat)) 12).1))) g) : PR (d + 2) m_D_rolled [.ref x] h Q := by
  have N := ht.1
  have hm := ht.2.2.1
  have b3 := hb.2.2.2.2.2
  have pb := paV_b (B := B) hF (by omega) hg hFV len
  show PW (d + 2) 173 0 [some (.ref x), none, none, none, none, none] [] h Q
  refine vs_ok 1 ?_
  rw [show ((gRes 173).drop 0).take 1 = [.aload 0] from rfl]
  simp (disch := omega) only [vs_aload0, vs_nil, gv_0, gv_1, gv_2, gv_3, pv_0, pv_1, va_rf_s, Nat.reduceDiv, Nat.reduceMod, Nat.reduceAdd, Nat.reduceMul, Int.reduceToNat, true_and, and_true, and_self, cP_eq, cP_ne, cP_lt, cP_ge, cP_gt, cP_le, eL_i, eL_l, eL_r, eL_n, Option.toList_none, Option.toList_some, List.nil_append, List.cons_append, kkI, llI, nnI, rrI, jjI, kkJ, llJ, nnJ, rrJ, iiJ, zIIs, zJJs, nEF, nET, and_false, false_and, jmin, jmax, catS_n, catS_i, catS_r, catS_l, Nat.reduceLeDiff, j1eq1, n21, jt0, jt1, Bool.false_eq_true, Classical.not_not, true_or, or_true, false_or, or_false, true_imp_iff, false_imp_iff, not_true_eq_false, not_false_eq_true, jif0, jif1, jifb, ltT, ltF, leT, leF, eqT, eqF, jlt, jle, jeq, jlt0, jle0, jeq0, jge0, jgt0, jinB, jnat, clt, cle, ceq, cgt, cge, lI_add, lI_sub, lI_mul, jadd, jsub, jmul, jneg, jtol, b010, b011, pv_2t, Int.toNat_natCast, Option.some.injEq, exists_eq_left', if_true, if_false]
  refine PW.iv rfl rfl rfl N.1.1 N.1.2 (le_b rfl) (le_b rfl) ?_
  refine t_takeTape ht fun g f t' e => ⟨rfl, ⟨f.1.2.2.1, rfl⟩, ?_⟩
  have N1 := t'.1
  have hv1 := t'.2.2.2.1
  have hb1 := t'.2.2.2.2
  by_cases c1 : 1 ≤ len
  · by_cases c2 : len ≤ 20
    · have l1 : ∀ (j i : Nat), j + i = len → (∀ q, q < i → B q ≤ 60) → PW (d + 2) 173 13 [some (.ref x), some (.int (iI len)), some (.int (iI i)), none, none, none] [] g Q := by
        intro j
        induction j with
        | zero =>
          intro i hi hA
          have ei : i = len := by omega
          subst ei
          have ok : rlP B i := ⟨⟨c1, c2⟩, hA⟩
          generalize hp : (fun k : Nat => paV nm F V B i (k : Nat)) = p at *
          have pb' : ∀ k, 0 ≤ p k ∧ p k ≤ 1000000000000000 := fun k => by rw [← hp]; exact pb k
          have l2 : ∀ (j k : Nat) (g2 : Hp), j + k = 12 → fi (fun q => q = x + 153) g g2 → (∀ q : Nat, q < k → zJ g2 (x + 153) q = lI (p q)) → PW (d + 2) 173 31 [some (.ref x), some (.int (iI i)), some (.int (iI (bsF p k).1)), some (.long (lI (bsF p k).2)), none, some (.int (iI k))] [] g2 Q := by
            intro j
            induction j with
            | zero =>
              intro k g2 hk f2 hJ
              have ek : k = 12 := by omega
              subst ek
              have N2 : zK g2 x = 11 ∧ x < zN g2 := ⟨by rw [f2.1.1]; exact N1.1.1, by rw [f2.1.2.2.1]; exact N1.1.2⟩
              have Y2 : zR g2 x 11 = some (x + 153) ∧ zK g2 (x + 153) = 15 ∧ x + 153 < zN g2 ∧ zL g2 (x + 153) = 12 := by rw [f2.2, f.2, f2.1.1, f.1.1, f2.1.2.2.1, f.1.2.2.1, f2.1.2.1, f.1.2.1]; exact y11
              have bb := bsF_b pb' 12
              refine vs_ok 5 ?_
              rw [show ((gRes 173).drop 31).take 5 = [.iload 5, .aload 0, .getfield 11112, .arraylength, .if_icmp .ge 60] from rfl]
              simp (disch := omega) only [vs_if_icmp, vs_getfield, vs_arraylength, vs_aload0, vs_iload5, vs_nil, gv_0, gv_1, gv_2, gv_3, pv_0, pv_1, va_rf_s, Nat.reduceDiv, Nat.reduceMod, Nat.reduceAdd, Nat.reduceMul, Int.reduceToNat, true_and, and_true, and_self, cP_eq, cP_ne, cP_lt, cP_ge, cP_gt, cP_le, eL_i, eL_l, eL_r, eL_n, Option.toList_none, Option.toList_some, List.nil_append, List.cons_append, kkI, llI, nnI, rrI, jjI, kkJ, llJ, nnJ, rrJ, iiJ, zIIs, zJJs, nEF, nET, and_false, false_and, jmin, jmax, catS_n, catS_i, catS_r, catS_l, Nat.reduceLeDiff, j1eq1, n21, jt0, jt1, Bool.false_eq_true, Classical.not_not, true_or, or_true, false_or, or_false, true_imp_iff, false_imp_iff, not_true_eq_false, not_false_eq_true, jif0, jif1, jifb, ltT, ltF, leT, leF, eqT, eqF, jlt, jle, jeq, jlt0, jle0, jeq0, jge0, jgt0, jinB, jnat, clt, cle, ceq, cgt, cge, lI_add, lI_sub, lI_mul, jadd, jsub, jmul, jneg, jtol, b010, b011, pv_2t, Int.toNat_natCast, Option.some.injEq, exists_eq_left', if_true, if_false, N2, Y2, of12]
              refine vs_ok 2 ?_
              rw [show ((gRes 173).drop 60).take 2 = [.iload 2, .ireturn] from rfl]
              simp (disch := omega) only [vs_ireturn, vs_iload2, vs_nil, gv_0, gv_1, gv_2, gv_3, pv_0, pv_1, va_rf_s, Nat.reduceDiv, Nat.reduceMod, Nat.reduceAdd, Nat.reduceMul, Int.reduceToNat, true_and, and_true, and_self, cP_eq, cP_ne, cP_lt, cP_ge, cP_gt, cP_le, eL_i, eL_l, eL_r, eL_n, Option.toList_none, Option.toList_some, List.nil_append, List.cons_append, kkI, llI, nnI, rrI, jjI, kkJ, llJ, nnJ, rrJ, iiJ, zIIs, zJJs, nEF, nET, and_false, false_and, jmin, jmax, catS_n, catS_i, catS_r, catS_l, Nat.reduceLeDiff, j1eq1, n21, jt0, jt1, Bool.false_eq_true, Classical.not_not, true_or, or_true, false_or, or_false, true_imp_iff, false_imp_iff, not_true_eq_false, not_false_eq_true, jif0, jif1, jifb, ltT, ltF, leT, leF, eqT, eqF, jlt, jle, jeq, jlt0, jle0, jeq0, jge0, jgt0, jinB, jnat, clt, cle, ceq, cgt, cge, lI_add, lI_sub, lI_mul, jadd, jsub, jmul, jneg, jtol, b010, b011, pv_2t, Int.toNat_natCast, Option.some.injEq, exists_eq_left', if_true, if_false, show gRc 173 = 1 from rfl]
              refine q1 ok g2 ((f.wk fun q z => Or.inl z).tr (f2.wk fun q z => Or.inr z)) (t'.fi f2 (by rw [f2.1.2.2.2.2.2.1 x (by omega)]) (by omega)) (fun q hq => by rw [f2.1.2.2.2.2.2.1 x (by omega)]; exact e q hq) fun k hk => ?_
              rw [hJ k hk, ← hp]
            | succ j ih =>
              intro k g2 hk f2 hJ
              have N2 : zK g2 x = 11 ∧ x < zN g2 := ⟨by rw [f2.1.1]; exact N1.1.1, by rw [f2.1.2.2.1]; exact N1.1.2⟩
              have Y2 : zR g2 x 11 = some (x + 153) ∧ zK g2 (x + 153) = 15 ∧ x + 153 < zN g2 ∧ zL g2 (x + 153) = 12 := by rw [f2.2, f.2, f2.1.1, f.1.1, f2.1.2.2.1, f.1.2.2.1, f2.1.2.1, f.1.2.1]; exact y11
              have bb := bsF_b pb' k
              have pk := pb' k
              have F3 : fi (fun q => q = x ∨ q = x + 153) h g2 := (f.wk fun q z => Or.inl z).tr (f2.wk fun q z => Or.inr z)
              have t2 := t'.fi f2 (by rw [f2.1.2.2.2.2.2.1 x (by omega)]) (by omega)
              refine vs_ok 5 ?_
              rw [show ((gRes 173).drop 31).take 5 = [.iload 5, .aload 0, .getfield 11112, .arraylength, .if_icmp .ge 60] from rfl]
              simp (disch := omega) only [vs_if_icmp, vs_getfield, vs_arraylength, vs_aload0, vs_iload5, vs_nil, gv_0, gv_1, gv_2, gv_3, pv_0, pv_1, va_rf_s, Nat.reduceDiv, Nat.reduceMod, Nat.reduceAdd, Nat.reduceMul, Int.reduceToNat, true_and, and_true, and_self, cP_eq, cP_ne, cP_lt, cP_ge, cP_gt, cP_le, eL_i, eL_l, eL_r, eL_n, Option.toList_none, Option.toList_some, List.nil_append, List.cons_append, kkI, llI, nnI, rrI, jjI, kkJ, llJ, nnJ, rrJ, iiJ, zIIs, zJJs, nEF, nET, and_false, false_and, jmin, jmax, catS_n, catS_i, catS_r, catS_l, Nat.reduceLeDiff, j1eq1, n21, jt0, jt1, Bool.false_eq_true, Classical.not_not, true_or, or_true, false_or, or_false, true_imp_iff, false_imp_iff, not_true_eq_false, not_false_eq_true, jif0, jif1, jifb, ltT, ltF, leT, leF, eqT, eqF, jlt, jle, jeq, jlt0, jle0, jeq0, jge0, jgt0, jinB, jnat, clt, cle, ceq, cgt, cge, lI_add, lI_sub, lI_mul, jadd, jsub, jmul, jneg, jtol, b010, b011, pv_2t, Int.toNat_natCast, Option.some.injEq, exists_eq_left', if_true, if_false, N2, Y2, of12]
              refine vs_ok 6 ?_
              rw [show ((gRes 173).drop 36).take 6 = [.aload 0, .getfield 11112, .iload 5, .aload 0, .iload 5, .iload 1] from rfl]
              simp (disch := omega) only [vs_getfield, vs_aload0, vs_iload1, vs_iload5, vs_nil, gv_0, gv_1, gv_2, gv_3, pv_0, pv_1, va_rf_s, Nat.reduceDiv, Nat.reduceMod, Nat.reduceAdd, Nat.reduceMul, Int.reduceToNat, true_and, and_true, and_self, cP_eq, cP_ne, cP_lt, cP_ge, cP_gt, cP_le, eL_i, eL_l, eL_r, eL_n, Option.toList_none, Option.toList_some, List.nil_append, List.cons_append, kkI, llI, nnI, rrI, jjI, kkJ, llJ, nnJ, rrJ, iiJ, zIIs, zJJs, nEF, nET, and_false, false_and, jmin, jmax, catS_n, catS_i, catS_r, catS_l, Nat.reduceLeDiff, j1eq1, n21, jt0, jt1, Bool.false_eq_true, Classical.not_not, true_or, or_true, false_or, or_false, true_imp_iff, false_imp_iff, not_true_eq_false, not_false_eq_true, jif0, jif1, jifb, ltT, ltF, leT, leF, eqT, eqF, jlt, jle, jeq, jlt0, jle0, jeq0, jge0, jgt0, jinB, jnat, clt, cle, ceq, cgt, cge, lI_add, lI_sub, lI_mul, jadd, jsub, jmul, jneg, jtol, b010, b011, pv_2t, Int.toNat_natCast, Option.some.injEq, exists_eq_left', if_true, if_false, N2, Y2]
              refine PW.iv rfl rfl rfl N2.1 N2.2 (le_b rfl) (le_b rfl) ?_
              refine t_partsOf (d := d) (len := i) t2 (by rw [F3.2]; exact h2) (hb.keep F3.1 (by omega)) hF (fun q hq => (hv q hq).keep F3.1 (by omega) (by omega)) hg hFV (by omega) c2 ⟨rfl, ⟨rfl, rfl⟩, ?_⟩
              rw [show paV nm F V B i (k : Nat) = p k from congrFun hp k]
              have z := ih (k + 1) (zsJ g2 (x + 153) k (lI (p k))) (by omega) (f2.J rfl) fun q hq => by
                rw [zJ_sJ]
                by_cases y : q = k
                · rw [if_pos ⟨rfl, y⟩, y]
                · rw [if_neg fun z => y z.2]
                  exact hJ q (by omega)
              by_cases y : (bsF p k).2 < p k
              · have es : bsF p (k + 1) = (((k : Nat) : Int), p k) := if_pos y
                rw [es] at z
                refine vs_ok 8 ?_
                rw [show ((gRes 173).drop 43).take 8 = [.lastore, .aload 0, .getfield 11112, .iload 5, .laload, .lload 3, .lcmp, .ifCond .le 58] from rfl]
                simp (disch := omega) only [vs_lcmp, vs_ifCond, vs_getfield, vs_laload, vs_lastore, vs_aload0, vs_lload3, vs_iload5, vs_nil, gv_0, gv_1, gv_2, gv_3, pv_0, pv_1, va_rf_s, Nat.reduceDiv, Nat.reduceMod, Nat.reduceAdd, Nat.reduceMul, Int.reduceToNat, true_and, and_true, and_self, cP_eq, cP_ne, cP_lt, cP_ge, cP_gt, cP_le, eL_i, eL_l, eL_r, eL_n, Option.toList_none, Option.toList_some, List.nil_append, List.cons_append, kkI, llI, nnI, rrI, jjI, kkJ, llJ, nnJ, rrJ, iiJ, zIIs, zJJs, nEF, nET, and_false, false_and, jmin, jmax, catS_n, catS_i, catS_r, catS_l, Nat.reduceLeDiff, j1eq1, n21, jt0, jt1, Bool.false_eq_true, Classical.not_not, true_or, or_true, false_or, or_false, true_imp_iff, false_imp_iff, not_true_eq_false, not_false_eq_true, jif0, jif1, jifb, ltT, ltF, leT, leF, eqT, eqF, jlt, jle, jeq, jlt0, jle0, jeq0, jge0, jgt0, jinB, jnat, clt, cle, ceq, cgt, cge, lI_add, lI_sub, lI_mul, jadd, jsub, jmul, jneg, jtol, b010, b011, pv_2t, Int.toNat_natCast, Option.some.injEq, exists_eq_left', if_true, if_false, N2, Y2]
                refine vs_ok 9 ?_
                rw [show ((gRes 173).drop 51).take 9 = [.aload 0, .getfield 11112, .iload 5, .laload, .lstore 3, .iload 5, .istore 2, .iinc 5 1, .goto 31] from rfl]
                simp (disch := omega) only [vs_goto, vs_getfield, vs_laload, vs_aload0, vs_istore2n, vs_istore2i, vs_istore2r, vs_istore2l, vs_lstore3n, vs_lstore3i, vs_lstore3r, vs_lstore3l, vs_iload5, vs_iinc5n, vs_iinc5i, vs_iinc5r, vs_iinc5l, vs_nil, gv_0, gv_1, gv_2, gv_3, pv_0, pv_1, va_rf_s, Nat.reduceDiv, Nat.reduceMod, Nat.reduceAdd, Nat.reduceMul, Int.reduceToNat, true_and, and_true, and_self, cP_eq, cP_ne, cP_lt, cP_ge, cP_gt, cP_le, eL_i, eL_l, eL_r, eL_n, Option.toList_none, Option.toList_some, List.nil_append, List.cons_append, kkI, llI, nnI, rrI, jjI, kkJ, llJ, nnJ, rrJ, iiJ, zIIs, zJJs, nEF, nET, and_false, false_and, jmin, jmax, catS_n, catS_i, catS_r, catS_l, Nat.reduceLeDiff, j1eq1, n21, jt0, jt1, Bool.false_eq_true, Classical.not_not, true_or, or_true, false_or, or_false, true_imp_iff, false_imp_iff, not_true_eq_false, not_false_eq_true, jif0, jif1, jifb, ltT, ltF, leT, leF, eqT, eqF, jlt, jle, jeq, jlt0, jle0, jeq0, jge0, jgt0, jinB, jnat, clt, cle, ceq, cgt, cge, lI_add, lI_sub, lI_mul, jadd, jsub, jmul, jneg, jtol, b010, b011, pv_2t, Int.toNat_natCast, Option.some.injEq, exists_eq_left', if_true, if_false, N2, Y2]
                exact z
              · have es : bsF p (k + 1) = bsF p k := if_neg y
                rw [es] at z
                refine vs_ok 8 ?_
                rw [show ((gRes 173).drop 43).take 8 = [.lastore, .aload 0, .getfield 11112, .iload 5, .laload, .lload 3, .lcmp, .ifCond .le 58] from rfl]
                simp (disch := omega) only [vs_lcmp, vs_ifCond, vs_getfield, vs_laload, vs_lastore, vs_aload0, vs_lload3, vs_iload5, vs_nil, gv_0, gv_1, gv_2, gv_3, pv_0, pv_1, va_rf_s, Nat.reduceDiv, Nat.reduceMod, Nat.reduceAdd, Nat.reduceMul, Int.reduceToNat, true_and, and_true, and_self, cP_eq, cP_ne, cP_lt, cP_ge, cP_gt, cP_le, eL_i, eL_l, eL_r, eL_n, Option.toList_none, Option.toList_some, List.nil_append, List.cons_append, kkI, llI, nnI, rrI, jjI, kkJ, llJ, nnJ, rrJ, iiJ, zIIs, zJJs, nEF, nET, and_false, false_and, jmin, jmax, catS_n, catS_i, catS_r, catS_l, Nat.reduceLeDiff, j1eq1, n21, jt0, jt1, Bool.false_eq_true, Classical.not_not, true_or, or_true, false_or, or_false, true_imp_iff, false_imp_iff, not_true_eq_false, not_false_eq_true, jif0, jif1, jifb, ltT, ltF, leT, leF, eqT, eqF, jlt, jle, jeq, jlt0, jle0, jeq0, jge0, jgt0, jinB, jnat, clt, cle, ceq, cgt, cge, lI_add, lI_sub, lI_mul, jadd, jsub, jmul, jneg, jtol, b010, b011, pv_2t, Int.toNat_natCast, Option.some.injEq, exists_eq_left', if_true, if_false, N2, Y2]
                refine vs_ok 2 ?_
                rw [show ((gRes 173).drop 58).take 2 = [.iinc 5 1, .goto 31] from rfl]
                simp (disch := omega) only [vs_goto, vs_iinc5n, vs_iinc5i, vs_iinc5r, vs_iinc5l, vs_nil, gv_0, gv_1, gv_2, gv_3, pv_0, pv_1, va_rf_s, Nat.reduceDiv, Nat.reduceMod, Nat.reduceAdd, Nat.reduceMul, Int.reduceToNat, true_and, and_true, and_self, cP_eq, cP_ne, cP_lt, cP_ge, cP_gt, cP_le, eL_i, eL_l, eL_r, eL_n, Option.toList_none, Option.toList_some, List.nil_append, List.cons_append, kkI, llI, nnI, rrI, jjI, kkJ, llJ, nnJ, rrJ, iiJ, zIIs, zJJs, nEF, nET, and_false, false_and, jmin, jmax, catS_n, catS_i, catS_r, catS_l, Nat.reduceLeDiff, j1eq1, n21, jt0, jt1, Bool.false_eq_true, Classical.not_not, true_or, or_true, false_or, or_false, true_imp_iff, false_imp_iff, not_true_eq_false, not_false_eq_true, jif0, jif1, jifb, ltT, ltF, leT, leF, eqT, eqF, jlt, jle, jeq, jlt0, jle0, jeq0, jge0, jgt0, jinB, jnat, clt, cle, ceq, cgt, cge, lI_add, lI_sub, lI_mul, jadd, jsub, jmul, jneg, jtol, b010, b011, pv_2t, Int.toNat_natCast, Option.some.injEq, exists_eq_left', if_true, if_false]
                exact z
          refine vs_ok 3 ?_
          rw [show ((gRes 173).drop 13).take 3 = [.iload 2, .iload 1, .if_icmp .ge 25] from rfl]
          simp (disch := omega) only [vs_if_icmp, vs_iload1, vs_iload2, vs_nil, gv_0, gv_1, gv_2, gv_3, pv_0, pv_1, va_rf_s, Nat.reduceDiv, Nat.reduceMod, Nat.reduceAdd, Nat.reduceMul, Int.reduceToNat, true_and, and_true, and_self, cP_eq, cP_ne, cP_lt, cP_ge, cP_gt, cP_le, eL_i, eL_l, eL_r, eL_n, Option.toList_none, Option.toList_some, List.nil_append, List.cons_append, kkI, llI, nnI, rrI, jjI, kkJ, llJ, nnJ, rrJ, iiJ, zIIs, zJJs, nEF, nET, and_false, false_and, jmin, jmax, catS_n, catS_i, catS_r, catS_l, Nat.reduceLeDiff, j1eq1, n21, jt0, jt1, Bool.false_eq_true, Classical.not_not, true_or, or_true, false_or, or_false, true_imp_iff, false_imp_iff, not_true_eq_false, not_false_eq_true, jif0, jif1, jifb, ltT, ltF, leT, leF, eqT, eqF, jlt, jle, jeq, jlt0, jle0, jeq0, jge0, jgt0, jinB, jnat, clt, cle, ceq, cgt, cge, lI_add, lI_sub, lI_mul, jadd, jsub, jmul, jneg, jtol, b010, b011, pv_2t, Int.toNat_natCast, Option.some.injEq, exists_eq_left', if_true, if_false]
          refine vs_ok 6 ?_
          rw [show ((gRes 173).drop 25).take 6 = [.iconst (-1), .istore 2, .jsr_w 0, .lstore 3, .iconst 0, .istore 5] from rfl]
          simp (disch := omega) only [vs_iconst, vs_jsr_w, vs_istore2n, vs_istore2i, vs_istore2r, vs_istore2l, vs_lstore3n, vs_lstore3i, vs_lstore3r, vs_lstore3l, vs_istore5n, vs_istore5i, vs_istore5r, vs_istore5l, vs_nil, gv_0, gv_1, gv_2, gv_3, pv_0, pv_1, va_rf_s, Nat.reduceDiv, Nat.reduceMod, Nat.reduceAdd, Nat.reduceMul, Int.reduceToNat, true_and, and_true, and_self, cP_eq, cP_ne, cP_lt, cP_ge, cP_gt, cP_le, eL_i, eL_l, eL_r, eL_n, Option.toList_none, Option.toList_some, List.nil_append, List.cons_append, kkI, llI, nnI, rrI, jjI, kkJ, llJ, nnJ, rrJ, iiJ, zIIs, zJJs, nEF, nET, and_false, false_and, jmin, jmax, catS_n, catS_i, catS_r, catS_l, Nat.reduceLeDiff, j1eq1, n21, jt0, jt1, Bool.false_eq_true, Classical.not_not, true_or, or_true, false_or, or_false, true_imp_iff, false_imp_iff, not_true_eq_false, not_false_eq_true, jif0, jif1, jifb, ltT, ltF, leT, leF, eqT, eqF, jlt, jle, jeq, jlt0, jle0, jeq0, jge0, jgt0, jinB, jnat, clt, cle, ceq, cgt, cge, lI_add, lI_sub, lI_mul, jadd, jsub, jmul, jneg, jtol, b010, b011, pv_2t, Int.toNat_natCast, Option.some.injEq, exists_eq_left', if_true, if_false]
          exact l2 12 0 g rfl fi.rf fun q hq => absurd hq (by omega)
        | succ j ih =>
          intro i hi hA
          have bi := hb1 i
          by_cases c3 : B i ≤ 60
          · refine vs_ok 3 ?_
            rw [show ((gRes 173).drop 13).take 3 = [.iload 2, .iload 1, .if_icmp .ge 25] from rfl]
            simp (disch := omega) only [vs_if_icmp, vs_iload1, vs_iload2, vs_nil, gv_0, gv_1, gv_2, gv_3, pv_0, pv_1, va_rf_s, Nat.reduceDiv, Nat.reduceMod, Nat.reduceAdd, Nat.reduceMul, Int.reduceToNat, true_and, and_true, and_self, cP_eq, cP_ne, cP_lt, cP_ge, cP_gt, cP_le, eL_i, eL_l, eL_r, eL_n, Option.toList_none, Option.toList_some, List.nil_append, List.cons_append, kkI, llI, nnI, rrI, jjI, kkJ, llJ, nnJ, rrJ, iiJ, zIIs, zJJs, nEF, nET, and_false, false_and, jmin, jmax, catS_n, catS_i, catS_r, catS_l, Nat.reduceLeDiff, j1eq1, n21, jt0, jt1, Bool.false_eq_true, Classical.not_not, true_or, or_true, false_or, or_false, true_imp_iff, false_imp_iff, not_true_eq_false, not_false_eq_true, jif0, jif1, jifb, ltT, ltF, leT, leF, eqT, eqF, jlt, jle, jeq, jlt0, jle0, jeq0, jge0, jgt0, jinB, jnat, clt, cle, ceq, cgt, cge, lI_add, lI_sub, lI_mul, jadd, jsub, jmul, jneg, jtol, b010, b011, pv_2t, Int.toNat_natCast, Option.some.injEq, exists_eq_left', if_true, if_false]
            refine vs_ok 2 ?_
            rw [show ((gRes 173).drop 16).take 2 = [.aload 0, .iload 2] from rfl]
            simp (disch := omega) only [vs_aload0, vs_iload2, vs_nil, gv_0, gv_1, gv_2, gv_3, pv_0, pv_1, va_rf_s, Nat.reduceDiv, Nat.reduceMod, Nat.reduceAdd, Nat.reduceMul, Int.reduceToNat, true_and, and_true, and_self, cP_eq, cP_ne, cP_lt, cP_ge, cP_gt, cP_le, eL_i, eL_l, eL_r, eL_n, Option.toList_none, Option.toList_some, List.nil_append, List.cons_append, kkI, llI, nnI, rrI, jjI, kkJ, llJ, nnJ, rrJ, iiJ, zIIs, zJJs, nEF, nET, and_false, false_and, jmin, jmax, catS_n, catS_i, catS_r, catS_l, Nat.reduceLeDiff, j1eq1, n21, jt0, jt1, Bool.false_eq_true, Classical.not_not, true_or, or_true, false_or, or_false, true_imp_iff, false_imp_iff, not_true_eq_false, not_false_eq_true, jif0, jif1, jifb, ltT, ltF, leT, leF, eqT, eqF, jlt, jle, jeq, jlt0, jle0, jeq0, jge0, jgt0, jinB, jnat, clt, cle, ceq, cgt, cge, lI_add, lI_sub, lI_mul, jadd, jsub, jmul, jneg, jtol, b010, b011, pv_2t, Int.toNat_natCast, Option.some.injEq, exists_eq_left', if_true, if_false]
            refine PW.iv rfl rfl rfl N1.1.1 N1.1.2 (le_b rfl) (le_b rfl) ?_
            refine t_tapeAt t' (by omega) ⟨rfl, ⟨rfl, rfl⟩, ?_⟩
            refine vs_ok 2 ?_
            rw [show ((gRes 173).drop 19).take 2 = [.iconst 60, .if_icmp .le 23] from rfl]
            simp (disch := omega) only [vs_iconst, vs_if_icmp, vs_nil, gv_0, gv_1, gv_2, gv_3, pv_0, pv_1, va_rf_s, Nat.reduceDiv, Nat.reduceMod, Nat.reduceAdd, Nat.reduceMul, Int.reduceToNat, true_and, and_true, and_self, cP_eq, cP_ne, cP_lt, cP_ge, cP_gt, cP_le, eL_i, eL_l, eL_r, eL_n, Option.toList_none, Option.toList_some, List.nil_append, List.cons_append, kkI, llI, nnI, rrI, jjI, kkJ, llJ, nnJ, rrJ, iiJ, zIIs, zJJs, nEF, nET, and_false, false_and, jmin, jmax, catS_n, catS_i, catS_r, catS_l, Nat.reduceLeDiff, j1eq1, n21, jt0, jt1, Bool.false_eq_true, Classical.not_not, true_or, or_true, false_or, or_false, true_imp_iff, false_imp_iff, not_true_eq_false, not_false_eq_true, jif0, jif1, jifb, ltT, ltF, leT, leF, eqT, eqF, jlt, jle, jeq, jlt0, jle0, jeq0, jge0, jgt0, jinB, jnat, clt, cle, ceq, cgt, cge, lI_add, lI_sub, lI_mul, jadd, jsub, jmul, jneg, jtol, b010, b011, pv_2t, Int.toNat_natCast, Option.some.injEq, exists_eq_left', if_true, if_false]
            refine vs_ok 2 ?_
            rw [show ((gRes 173).drop 23).take 2 = [.iinc 2 1, .goto 13] from rfl]
            simp (disch := omega) only [vs_goto, vs_iinc2n, vs_iinc2i, vs_iinc2r, vs_iinc2l, vs_nil, gv_0, gv_1, gv_2, gv_3, pv_0, pv_1, va_rf_s, Nat.reduceDiv, Nat.reduceMod, Nat.reduceAdd, Nat.reduceMul, Int.reduceToNat, true_and, and_true, and_self, cP_eq, cP_ne, cP_lt, cP_ge, cP_gt, cP_le, eL_i, eL_l, eL_r, eL_n, Option.toList_none, Option.toList_some, List.nil_append, List.cons_append, kkI, llI, nnI, rrI, jjI, kkJ, llJ, nnJ, rrJ, iiJ, zIIs, zJJs, nEF, nET, and_false, false_and, jmin, jmax, catS_n, catS_i, catS_r, catS_l, Nat.reduceLeDiff, j1eq1, n21, jt0, jt1, Bool.false_eq_true, Classical.not_not, true_or, or_true, false_or, or_false, true_imp_iff, false_imp_iff, not_true_eq_false, not_false_eq_true, jif0, jif1, jifb, ltT, ltF, leT, leF, eqT, eqF, jlt, jle, jeq, jlt0, jle0, jeq0, jge0, jgt0, jinB, jnat, clt, cle, ceq, cgt, cge, lI_add, lI_sub, lI_mul, jadd, jsub, jmul, jneg, jtol, b010, b011, pv_2t, Int.toNat_natCast, Option.some.injEq, exists_eq_left', if_true, if_false]
            exact ih (i + 1) (by omega) fun q hq => by
              by_cases y : q = i
              · rw [y]; exact c3
              · exact hA q (by omega)
          · refine vs_ok 3 ?_
            rw [show ((gRes 173).drop 13).take 3 = [.iload 2, .iload 1, .if_icmp .ge 25] from rfl]
            simp (disch := omega) only [vs_if_icmp, vs_iload1, vs_iload2, vs_nil, gv_0, gv_1, gv_2, gv_3, pv_0, pv_1, va_rf_s, Nat.reduceDiv, Nat.reduceMod, Nat.reduceAdd, Nat.reduceMul, Int.reduceToNat, true_and, and_true, and_self, cP_eq, cP_ne, cP_lt, cP_ge, cP_gt, cP_le, eL_i, eL_l, eL_r, eL_n, Option.toList_none, Option.toList_some, List.nil_append, List.cons_append, kkI, llI, nnI, rrI, jjI, kkJ, llJ, nnJ, rrJ, iiJ, zIIs, zJJs, nEF, nET, and_false, false_and, jmin, jmax, catS_n, catS_i, catS_r, catS_l, Nat.reduceLeDiff, j1eq1, n21, jt0, jt1, Bool.false_eq_true, Classical.not_not, true_or, or_true, false_or, or_false, true_imp_iff, false_imp_iff, not_true_eq_false, not_false_eq_true, jif0, jif1, jifb, ltT, ltF, leT, leF, eqT, eqF, jlt, jle, jeq, jlt0, jle0, jeq0, jge0, jgt0, jinB, jnat, clt, cle, ceq, cgt, cge, lI_add, lI_sub, lI_mul, jadd, jsub, jmul, jneg, jtol, b010, b011, pv_2t, Int.toNat_natCast, Option.some.injEq, exists_eq_left', if_true, if_false]
            refine vs_ok 2 ?_
            rw [show ((gRes 173).drop 16).take 2 = [.aload 0, .iload 2] from rfl]
            simp (disch := omega) only [vs_aload0, vs_iload2, vs_nil, gv_0, gv_1, gv_2, gv_3, pv_0, pv_1, va_rf_s, Nat.reduceDiv, Nat.reduceMod, Nat.reduceAdd, Nat.reduceMul, Int.reduceToNat, true_and, and_true, and_self, cP_eq, cP_ne, cP_lt, cP_ge, cP_gt, cP_le, eL_i, eL_l, eL_r, eL_n, Option.toList_none, Option.toList_some, List.nil_append, List.cons_append, kkI, llI, nnI, rrI, jjI, kkJ, llJ, nnJ, rrJ, iiJ, zIIs, zJJs, nEF, nET, and_false, false_and, jmin, jmax, catS_n, catS_i, catS_r, catS_l, Nat.reduceLeDiff, j1eq1, n21, jt0, jt1, Bool.false_eq_true, Classical.not_not, true_or, or_true, false_or, or_false, true_imp_iff, false_imp_iff, not_true_eq_false, not_false_eq_true, jif0, jif1, jifb, ltT, ltF, leT, leF, eqT, eqF, jlt, jle, jeq, jlt0, jle0, jeq0, jge0, jgt0, jinB, jnat, clt, cle, ceq, cgt, cge, lI_add, lI_sub, lI_mul, jadd, jsub, jmul, jneg, jtol, b010, b011, pv_2t, Int.toNat_natCast, Option.some.injEq, exists_eq_left', if_true, if_false]
            refine PW.iv rfl rfl rfl N1.1.1 N1.1.2 (le_b rfl) (le_b rfl) ?_
            refine t_tapeAt t' (by omega) ⟨rfl, ⟨rfl, rfl⟩, ?_⟩
            refine vs_ok 2 ?_
            rw [show ((gRes 173).drop 19).take 2 = [.iconst 60, .if_icmp .le 23] from rfl]
            simp (disch := omega) only [vs_iconst, vs_if_icmp, vs_nil, gv_0, gv_1, gv_2, gv_3, pv_0, pv_1, va_rf_s, Nat.reduceDiv, Nat.reduceMod, Nat.reduceAdd, Nat.reduceMul, Int.reduceToNat, true_and, and_true, and_self, cP_eq, cP_ne, cP_lt, cP_ge, cP_gt, cP_le, eL_i, eL_l, eL_r, eL_n, Option.toList_none, Option.toList_some, List.nil_append, List.cons_append, kkI, llI, nnI, rrI, jjI, kkJ, llJ, nnJ, rrJ, iiJ, zIIs, zJJs, nEF, nET, and_false, false_and, jmin, jmax, catS_n, catS_i, catS_r, catS_l, Nat.reduceLeDiff, j1eq1, n21, jt0, jt1, Bool.false_eq_true, Classical.not_not, true_or, or_true, false_or, or_false, true_imp_iff, false_imp_iff, not_true_eq_false, not_false_eq_true, jif0, jif1, jifb, ltT, ltF, leT, leF, eqT, eqF, jlt, jle, jeq, jlt0, jle0, jeq0, jge0, jgt0, jinB, jnat, clt, cle, ceq, cgt, cge, lI_add, lI_sub, lI_mul, jadd, jsub, jmul, jneg, jtol, b010, b011, pv_2t, Int.toNat_natCast, Option.some.injEq, exists_eq_left', if_true, if_false]
            refine vs_ok 2 ?_
            rw [show ((gRes 173).drop 21).take 2 = [.iconst (-1), .ireturn] from rfl]
            simp (disch := omega) only [vs_iconst, vs_ireturn, vs_nil, gv_0, gv_1, gv_2, gv_3, pv_0, pv_1, va_rf_s, Nat.reduceDiv, Nat.reduceMod, Nat.reduceAdd, Nat.reduceMul, Int.reduceToNat, true_and, and_true, and_self, cP_eq, cP_ne, cP_lt, cP_ge, cP_gt, cP_le, eL_i, eL_l, eL_r, eL_n, Option.toList_none, Option.toList_some, List.nil_append, List.cons_append, kkI, llI, nnI, rrI, jjI, kkJ, llJ, nnJ, rrJ, iiJ, zIIs, zJJs, nEF, nET, and_false, false_and, jmin, jmax, catS_n, catS_i, catS_r, catS_l, Nat.reduceLeDiff, j1eq1, n21, jt0, jt1, Bool.false_eq_true, Classical.not_not, true_or, or_true, false_or, or_false, true_imp_iff, false_imp_iff, not_true_eq_false, not_false_eq_true, jif0, jif1, jifb, ltT, ltF, leT, leF, eqT, eqF, jlt, jle, jeq, jlt0, jle0, jeq0, jge0, jgt0, jinB, jnat, clt, cle, ceq, cgt, cge, lI_add, lI_sub, lI_mul, jadd, jsub, jmul, jneg, jtol, b010, b011, pv_2t, Int.toNat_natCast, Option.some.injEq, exists_eq_left', if_true, if_false, show gRc 173 = 1 from rfl]
            exact q0 (fun z => c3 (z.2 i (by omega))) g f t' e
      refine vs_ok 7 ?_
      rw [show ((gRes 173).drop 2).take 7 = [.istore 1, .iload 1, .iconst 1, .if_icmp .lt 9, .iload 1, .iconst 20, .if_icmp .le 11] from rfl]
      simp (disch := omega) only [vs_iconst, vs_if_icmp, vs_iload1, vs_istore1n, vs_istore1i, vs_istore1r, vs_istore1l, vs_nil, gv_0, gv_1, gv_2, gv_3, pv_0, pv_1, va_rf_s, Nat.reduceDiv, Nat.reduceMod, Nat.reduceAdd, Nat.reduceMul, Int.reduceToNat, true_and, and_true, and_self, cP_eq, cP_ne, cP_lt, cP_ge, cP_gt, cP_le, eL_i, eL_l, eL_r, eL_n, Option.toList_none, Option.toList_some, List.nil_append, List.cons_append, kkI, llI, nnI, rrI, jjI, kkJ, llJ, nnJ, rrJ, iiJ, zIIs, zJJs, nEF, nET, and_false, false_and, jmin, jmax, catS_n, catS_i, catS_r, catS_l, Nat.reduceLeDiff, j1eq1, n21, jt0, jt1, Bool.false_eq_true, Classical.not_not, true_or, or_true, false_or, or_false, true_imp_iff, false_imp_iff, not_true_eq_false, not_false_eq_true, jif0, jif1, jifb, ltT, ltF, leT, leF, eqT, eqF, jlt, jle, jeq, jlt0, jle0, jeq0, jge0, jgt0, jinB, jnat, clt, cle, ceq, cgt, cge, lI_add, lI_sub, lI_mul, jadd, jsub, jmul, jneg, jtol, b010, b011, pv_2t, Int.toNat_natCast, Option.some.injEq, exists_eq_left', if_true, if_false]
      refine vs_ok 2 ?_
      rw [show ((gRes 173).drop 11).take 2 = [.iconst 0, .istore 2] from rfl]
      simp (disch := omega) only [vs_iconst, vs_istore2n, vs_istore2i, vs_istore2r, vs_istore2l, vs_nil, gv_0, gv_1, gv_2, gv_3, pv_0, pv_1, va_rf_s, Nat.reduceDiv, Nat.reduceMod, Nat.reduceAdd, Nat.reduceMul, Int.reduceToNat, true_and, and_true, and_self, cP_eq, cP_ne, cP_lt, cP_ge, cP_gt, cP_le, eL_i, eL_l, eL_r, eL_n, Option.toList_none, Option.toList_some, List.nil_append, List.cons_append, kkI, llI, nnI, rrI, jjI, kkJ, llJ, nnJ, rrJ, iiJ, zIIs, zJJs, nEF, nET, and_false, false_and, jmin, jmax, catS_n, catS_i, catS_r, catS_l, Nat.reduceLeDiff, j1eq1, n21, jt0, jt1, Bool.false_eq_true, Classical.not_not, true_or, or_true, false_or, or_false, true_imp_iff, false_imp_iff, not_true_eq_false, not_false_eq_true, jif0, jif1, jifb, ltT, ltF, leT, leF, eqT, eqF, jlt, jle, jeq, jlt0, jle0, jeq0, jge0, jgt0, jinB, jnat, clt, cle, ceq, cgt, cge, lI_add, lI_sub, lI_mul, jadd, jsub, jmul, jneg, jtol, b010, b011, pv_2t, Int.toNat_natCast, Option.some.injEq, exists_eq_left', if_true, if_false]
      exact l1 len 0 rfl fun q hq => absurd hq (by omega)
    · refine vs_ok 7 ?_
      rw [show ((gRes 173).drop 2).take 7 = [.istore 1, .iload 1, .iconst 1, .if_icmp .lt 9, .iload 1, .iconst 20, .if_icmp .le 11] from rfl]
      simp (disch := omega) only [vs_iconst, vs_if_icmp, vs_iload1, vs_istore1n, vs_istore1i, vs_istore1r, vs_istore1l, vs_nil, gv_0, gv_1, gv_2, gv_3, pv_0, pv_1, va_rf_s, Nat.reduceDiv, Nat.reduceMod, Nat.reduceAdd, Nat.reduceMul, Int.reduceToNat, true_and, and_true, and_self, cP_eq, cP_ne, cP_lt, cP_ge, cP_gt, cP_le, eL_i, eL_l, eL_r, eL_n, Option.toList_none, Option.toList_some, List.nil_append, List.cons_append, kkI, llI, nnI, rrI, jjI, kkJ, llJ, nnJ, rrJ, iiJ, zIIs, zJJs, nEF, nET, and_false, false_and, jmin, jmax, catS_n, catS_i, catS_r, catS_l, Nat.reduceLeDiff, j1eq1, n21, jt0, jt1, Bool.false_eq_true, Classical.not_not, true_or, or_true, false_or, or_false, true_imp_iff, false_imp_iff, not_true_eq_false, not_false_eq_true, jif0, jif1, jifb, ltT, ltF, leT, leF, eqT, eqF, jlt, jle, jeq, jlt0, jle0, jeq0, jge0, jgt0, jinB, jnat, clt, cle, ceq, cgt, cge, lI_add, lI_sub, lI_mul, jadd, jsub, jmul, jneg, jtol, b010, b011, pv_2t, Int.toNat_natCast, Option.some.injEq, exists_eq_left', if_true, if_false]
      refine vs_ok 2 ?_
      rw [show ((gRes 173).drop 9).take 2 = [.iconst (-1), .ireturn] from rfl]
      simp (disch := omega) only [vs_iconst, vs_ireturn, vs_nil, gv_0, gv_1, gv_2, gv_3, pv_0, pv_1, va_rf_s, Nat.reduceDiv, Nat.reduceMod, Nat.reduceAdd, Nat.reduceMul, Int.reduceToNat, true_and, and_true, and_self, cP_eq, cP_ne, cP_lt, cP_ge, cP_gt, cP_le, eL_i, eL_l, eL_r, eL_n, Option.toList_none, Option.toList_some, List.nil_append, List.cons_append, kkI, llI, nnI, rrI, jjI, kkJ, llJ, nnJ, rrJ, iiJ, zIIs, zJJs, nEF, nET, and_false, false_and, jmin, jmax, catS_n, catS_i, catS_r, catS_l, Nat.reduceLeDiff, j1eq1, n21, jt0, jt1, Bool.false_eq_true, Classical.not_not, true_or, or_true, false_or, or_false, true_imp_iff, false_imp_iff, not_true_eq_false, not_false_eq_true, jif0, jif1, jifb, ltT, ltF, leT, leF, eqT, eqF, jlt, jle, jeq, jlt0, jle0, jeq0, jge0, jgt0, jinB, jnat, clt, cle, ceq, cgt, cge, lI_add, lI_sub, lI_mul, jadd, jsub, jmul, jneg, jtol, b010, b011, pv_2t, Int.toNat_natCast, Option.some.injEq, exists_eq_left', if_true, if_false, show gRc 173 = 1 from rfl]
      exact q0 (fun z => c2 z.1.2) g f t' e
  · refine vs_ok 4 ?_
    rw [show ((gRes 173).drop 2).take 4 = [.istore 1, .iload 1, .iconst 1, .if_icmp .lt 9] from rfl]
    simp (disch := omega) only [vs_iconst, vs_if_icmp, vs_iload1, vs_istore1n, vs_istore1i, vs_istore1r, vs_istore1l, vs_nil, gv_0, gv_1, gv_2, gv_3, pv_0, pv_1, va_rf_s, Nat.reduceDiv, Nat.reduceMod, Nat.reduceAdd, Nat.reduceMul, Int.reduceToNat, true_and, and_true, and_self, cP_eq, cP_ne, cP_lt, cP_ge, cP_gt, cP_le, eL_i, eL_l, eL_r, eL_n, Option.toList_none, Option.toList_some, List.nil_append, List.cons_append, kkI, llI, nnI, rrI, jjI, kkJ, llJ, nnJ, rrJ, iiJ, zIIs, zJJs, nEF, nET, and_false, false_and, jmin, jmax, catS_n, catS_i, catS_r, catS_l, Nat.reduceLeDiff, j1eq1, n21, jt0, jt1, Bool.false_eq_true, Classical.not_not, true_or, or_true, false_or, or_false, true_imp_iff, false_imp_iff, not_true_eq_false, not_false_eq_true, jif0, jif1, jifb, ltT, ltF, leT, leF, eqT, eqF, jlt, jle, jeq, jlt0, jle0, jeq0, jge0, jgt0, jinB, jnat, clt, cle, ceq, cgt, cge, lI_add, lI_sub, lI_mul, jadd, jsub, jmul, jneg, jtol, b010, b011, pv_2t, Int.toNat_natCast, Option.some.injEq, exists_eq_left', if_true, if_false]
    refine vs_ok 2 ?_
    rw [show ((gRes 173).drop 9).take 2 = [.iconst (-1), .ireturn] from rfl]
    simp (disch := omega) only [vs_iconst, vs_ireturn, vs_nil, gv_0, gv_1, gv_2, gv_3, pv_0, pv_1, va_rf_s, Nat.reduceDiv, Nat.reduceMod, Nat.reduceAdd, Nat.reduceMul, Int.reduceToNat, true_and, and_true, and_self, cP_eq, cP_ne, cP_lt, cP_ge, cP_gt, cP_le, eL_i, eL_l, eL_r, eL_n, Option.toList_none, Option.toList_some, List.nil_append, List.cons_append, kkI, llI, nnI, rrI, jjI, kkJ, llJ, nnJ, rrJ, iiJ, zIIs, zJJs, nEF, nET, and_false, false_and, jmin, jmax, catS_n, catS_i, catS_r, catS_l, Nat.reduceLeDiff, j1eq1, n21, jt0, jt1, Bool.false_eq_true, Classical.not_not, true_or, or_true, false_or, or_false, true_imp_iff, false_imp_iff, not_true_eq_false, not_false_eq_true, jif0, jif1, jifb, ltT, ltF, leT, leF, eqT, eqF, jlt, jle, jeq, jlt0, jle0, jeq0, jge0, jgt0, jinB, jnat, clt, cle, ceq, cgt, cge, lI_add, lI_sub, lI_mul, jadd, jsub, jmul, jneg, jtol, b010, b011, pv_2t, Int.toNat_natCast, Option.some.injEq, exists_eq_left', if_true, if_false, show gRc 173 = 1 from rfl]
    exact q0 (fun z => c1 z.1.1) g f t' e
theorem t_rolledBy {d : Nat} {h : Hp} {x : Nat} {k : Int} {p : Nat → Int} {Q : Nat → Option Value → Hp → Prop} (N : zK h x = 11 ∧ x < zN h) (y11 : zR h x 11 = some (x + 153) ∧ zK h (x + 153) = 15 ∧ x + 153 < zN h ∧ zL h (x + 153) = 12) (hk : i32 k) (hp : ∀ i, i < 12 → zJ h (x + 153) i = lI (p i)) (hq : Q 0 (some (.long (lI (if 0 ≤ k ∧ k < 12 then p k.toNat else 0)))) h) : PR d m_D_rolledBy [.ref x, .int (iI k)] h Q := by
  have k1 := hk.1
  have k2 := hk.2
  show PW d 175 0 [some (.ref x), some (.int (iI k))] [] h Q
  have no : ¬ (0 ≤ k ∧ k < 12) → PW d 175 7 [some (.ref x), some (.int (iI k))] [] h Q := fun c => by
    rw [if_neg c] at hq
    refine vs_ok 2 ?_
    rw [show ((gRes 175).drop 7).take 2 = [.jsr_w 0, .goto 13] from rfl]
    simp (disch := omega) only [vs_jsr_w, vs_goto, vs_nil, gv_0, gv_1, gv_2, gv_3, pv_0, pv_1, va_rf_s, Nat.reduceDiv, Nat.reduceMod, Nat.reduceAdd, Nat.reduceMul, Int.reduceToNat, true_and, and_true, and_self, cP_eq, cP_ne, cP_lt, cP_ge, cP_gt, cP_le, eL_i, eL_l, eL_r, eL_n, Option.toList_none, Option.toList_some, List.nil_append, List.cons_append, kkI, llI, nnI, rrI, jjI, kkJ, llJ, nnJ, rrJ, iiJ, zIIs, zJJs, nEF, nET, and_false, false_and, jmin, jmax, catS_n, catS_i, catS_r, catS_l, Nat.reduceLeDiff, j1eq1, n21, jt0, jt1, Bool.false_eq_true, Classical.not_not, true_or, or_true, false_or, or_false, true_imp_iff, false_imp_iff, not_true_eq_false, not_false_eq_true, jif0, jif1, jifb, ltT, ltF, leT, leF, eqT, eqF, jlt, jle, jeq, jlt0, jle0, jeq0, jge0, jgt0, jinB, jnat, clt, cle, ceq, cgt, cge, lI_add, lI_sub, lI_mul, jadd, jsub, jmul, jneg, jtol, b010, b011, pv_2t, Int.toNat_natCast, Option.some.injEq, exists_eq_left', if_true, if_false]
    refine vs_ok 1 ?_
    rw [show ((gRes 175).drop 13).take 1 = [.lreturn] from rfl]
    simp (disch := omega) only [vs_lreturn, vs_nil, gv_0, gv_1, gv_2, gv_3, pv_0, pv_1, va_rf_s, Nat.reduceDiv, Nat.reduceMod, Nat.reduceAdd, Nat.reduceMul, Int.reduceToNat, true_and, and_true, and_self, cP_eq, cP_ne, cP_lt, cP_ge, cP_gt, cP_le, eL_i, eL_l, eL_r, eL_n, Option.toList_none, Option.toList_some, List.nil_append, List.cons_append, kkI, llI, nnI, rrI, jjI, kkJ, llJ, nnJ, rrJ, iiJ, zIIs, zJJs, nEF, nET, and_false, false_and, jmin, jmax, catS_n, catS_i, catS_r, catS_l, Nat.reduceLeDiff, j1eq1, n21, jt0, jt1, Bool.false_eq_true, Classical.not_not, true_or, or_true, false_or, or_false, true_imp_iff, false_imp_iff, not_true_eq_false, not_false_eq_true, jif0, jif1, jifb, ltT, ltF, leT, leF, eqT, eqF, jlt, jle, jeq, jlt0, jle0, jeq0, jge0, jgt0, jinB, jnat, clt, cle, ceq, cgt, cge, lI_add, lI_sub, lI_mul, jadd, jsub, jmul, jneg, jtol, b010, b011, pv_2t, Int.toNat_natCast, Option.some.injEq, exists_eq_left', if_true, if_false, show gRc 175 = 3 from rfl]
    exact hq
  by_cases c0 : k < 0
  · refine vs_ok 2 ?_
    rw [show ((gRes 175).drop 0).take 2 = [.iload 1, .ifCond .lt 7] from rfl]
    simp (disch := omega) only [vs_ifCond, vs_iload1, vs_nil, gv_0, gv_1, gv_2, gv_3, pv_0, pv_1, va_rf_s, Nat.reduceDiv, Nat.reduceMod, Nat.reduceAdd, Nat.reduceMul, Int.reduceToNat, true_and, and_true, and_self, cP_eq, cP_ne, cP_lt, cP_ge, cP_gt, cP_le, eL_i, eL_l, eL_r, eL_n, Option.toList_none, Option.toList_some, List.nil_append, List.cons_append, kkI, llI, nnI, rrI, jjI, kkJ, llJ, nnJ, rrJ, iiJ, zIIs, zJJs, nEF, nET, and_false, false_and, jmin, jmax, catS_n, catS_i, catS_r, catS_l, Nat.reduceLeDiff, j1eq1, n21, jt0, jt1, Bool.false_eq_true, Classical.not_not, true_or, or_true, false_or, or_false, true_imp_iff, false_imp_iff, not_true_eq_false, not_false_eq_true, jif0, jif1, jifb, ltT, ltF, leT, leF, eqT, eqF, jlt, jle, jeq, jlt0, jle0, jeq0, jge0, jgt0, jinB, jnat, clt, cle, ceq, cgt, cge, lI_add, lI_sub, lI_mul, jadd, jsub, jmul, jneg, jtol, b010, b011, pv_2t, Int.toNat_natCast, Option.some.injEq, exists_eq_left', if_true, if_false]
    exact no (by omega)
  · by_cases c1 : k < 12
    · obtain ⟨k, rfl⟩ : ∃ m : Nat, k = m := ⟨k.toNat, by omega⟩
      rw [if_pos ⟨by omega, c1⟩] at hq
      have v := hp k (by omega)
      refine vs_ok 7 ?_
      rw [show ((gRes 175).drop 0).take 7 = [.iload 1, .ifCond .lt 7, .iload 1, .aload 0, .getfield 11112, .arraylength, .if_icmp .lt 9] from rfl]
      simp (disch := omega) only [vs_if_icmp, vs_ifCond, vs_getfield, vs_arraylength, vs_aload0, vs_iload1, vs_nil, gv_0, gv_1, gv_2, gv_3, pv_0, pv_1, va_rf_s, Nat.reduceDiv, Nat.reduceMod, Nat.reduceAdd, Nat.reduceMul, Int.reduceToNat, true_and, and_true, and_self, cP_eq, cP_ne, cP_lt, cP_ge, cP_gt, cP_le, eL_i, eL_l, eL_r, eL_n, Option.toList_none, Option.toList_some, List.nil_append, List.cons_append, kkI, llI, nnI, rrI, jjI, kkJ, llJ, nnJ, rrJ, iiJ, zIIs, zJJs, nEF, nET, and_false, false_and, jmin, jmax, catS_n, catS_i, catS_r, catS_l, Nat.reduceLeDiff, j1eq1, n21, jt0, jt1, Bool.false_eq_true, Classical.not_not, true_or, or_true, false_or, or_false, true_imp_iff, false_imp_iff, not_true_eq_false, not_false_eq_true, jif0, jif1, jifb, ltT, ltF, leT, leF, eqT, eqF, jlt, jle, jeq, jlt0, jle0, jeq0, jge0, jgt0, jinB, jnat, clt, cle, ceq, cgt, cge, lI_add, lI_sub, lI_mul, jadd, jsub, jmul, jneg, jtol, b010, b011, pv_2t, Int.toNat_natCast, Option.some.injEq, exists_eq_left', if_true, if_false, N, y11, of12]
      refine vs_ok 5 ?_
      rw [show ((gRes 175).drop 9).take 5 = [.aload 0, .getfield 11112, .iload 1, .laload, .lreturn] from rfl]
      simp (disch := omega) only [vs_getfield, vs_laload, vs_lreturn, vs_aload0, vs_iload1, vs_nil, gv_0, gv_1, gv_2, gv_3, pv_0, pv_1, va_rf_s, Nat.reduceDiv, Nat.reduceMod, Nat.reduceAdd, Nat.reduceMul, Int.reduceToNat, true_and, and_true, and_self, cP_eq, cP_ne, cP_lt, cP_ge, cP_gt, cP_le, eL_i, eL_l, eL_r, eL_n, Option.toList_none, Option.toList_some, List.nil_append, List.cons_append, kkI, llI, nnI, rrI, jjI, kkJ, llJ, nnJ, rrJ, iiJ, zIIs, zJJs, nEF, nET, and_false, false_and, jmin, jmax, catS_n, catS_i, catS_r, catS_l, Nat.reduceLeDiff, j1eq1, n21, jt0, jt1, Bool.false_eq_true, Classical.not_not, true_or, or_true, false_or, or_false, true_imp_iff, false_imp_iff, not_true_eq_false, not_false_eq_true, jif0, jif1, jifb, ltT, ltF, leT, leF, eqT, eqF, jlt, jle, jeq, jlt0, jle0, jeq0, jge0, jgt0, jinB, jnat, clt, cle, ceq, cgt, cge, lI_add, lI_sub, lI_mul, jadd, jsub, jmul, jneg, jtol, b010, b011, pv_2t, Int.toNat_natCast, Option.some.injEq, exists_eq_left', if_true, if_false, N, y11, v, show gRc 175 = 3 from rfl]
      exact hq
    · refine vs_ok 7 ?_
      rw [show ((gRes 175).drop 0).take 7 = [.iload 1, .ifCond .lt 7, .iload 1, .aload 0, .getfield 11112, .arraylength, .if_icmp .lt 9] from rfl]
      simp (disch := omega) only [vs_if_icmp, vs_ifCond, vs_getfield, vs_arraylength, vs_aload0, vs_iload1, vs_nil, gv_0, gv_1, gv_2, gv_3, pv_0, pv_1, va_rf_s, Nat.reduceDiv, Nat.reduceMod, Nat.reduceAdd, Nat.reduceMul, Int.reduceToNat, true_and, and_true, and_self, cP_eq, cP_ne, cP_lt, cP_ge, cP_gt, cP_le, eL_i, eL_l, eL_r, eL_n, Option.toList_none, Option.toList_some, List.nil_append, List.cons_append, kkI, llI, nnI, rrI, jjI, kkJ, llJ, nnJ, rrJ, iiJ, zIIs, zJJs, nEF, nET, and_false, false_and, jmin, jmax, catS_n, catS_i, catS_r, catS_l, Nat.reduceLeDiff, j1eq1, n21, jt0, jt1, Bool.false_eq_true, Classical.not_not, true_or, or_true, false_or, or_false, true_imp_iff, false_imp_iff, not_true_eq_false, not_false_eq_true, jif0, jif1, jifb, ltT, ltF, leT, leF, eqT, eqF, jlt, jle, jeq, jlt0, jle0, jeq0, jge0, jgt0, jinB, jnat, clt, cle, ceq, cgt, cge, lI_add, lI_sub, lI_mul, jadd, jsub, jmul, jneg, jtol, b010, b011, pv_2t, Int.toNat_natCast, Option.some.injEq, exists_eq_left', if_true, if_false, N, y11, of12]
      exact no fun z => c1 z.2
