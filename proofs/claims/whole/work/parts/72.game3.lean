/-! Game: weigh, stands, keep, play -/
/-- the balancing weight of member i among the holders hd, up to one sign for all -/
def raF (S : Nat → Int) (hd i : Nat) : Int := (if pcN hd i % 2 = 0 then 1 else -1) * pfF S 7 (hd ^^^ 2 ^ i)
theorem raF_b {S : Nat → Int} (hS : ∀ i, -1 ≤ S i ∧ S i ≤ 1) (hd i : Nat) : -823543 ≤ raF S hd i ∧ raF S hd i ≤ 823543 := by
  have h := pfF_b hS 7 (hd ^^^ 2 ^ i)
  have e : ((7 ^ 7 : Nat) : Int) = 823543 := by decide
  rw [e] at h
  unfold raF
  split <;> omega
def wgP (S : Nat → Int) (hd : Nat) (T : Nat → Int) : Prop := (∃ tu : Int, (tu = 1 ∨ tu = -1) ∧ ∀ i, i < 7 → T i = if hd.testBit i = true then tu * raF S hd i else 0) ∧ ∀ i, i < 7 → hd.testBit i = true → 0 < T i
theorem t_weigh {d : Nat} {h : Hp} {x hd : Nat} {S : Nat → Int} {Q : Nat → Option Value → Hp → Prop} (ho : objA h x 2 gaL) (hS : ∀ i, -1 ≤ S i ∧ S i ≤ 1) (hs : ∀ i, i < 49 → zI h (x + 2) i = iI (S i)) (hh : 1 ≤ hd ∧ hd < 128)
    (hq1 : ∀ T, wgP S hd T → ∀ h', fi (fun q => q = x + 3) h h' → (∀ i, i < 7 → zJ h' (x + 3) i = lI (T i)) → Q 0 (some (.int (iI 1))) h') (hq0 : (∀ T, ¬ wgP S hd T) → ∀ h', fi (fun q => q = x + 3) h h' → Q 0 (some (.int (iI 0))) h') : PR (d + 8) m_Game_weigh [.ref x, .int (iI hd)] h Q := by
  show PW (d + 8) 28 0 [some (.ref x), some (.int (iI hd)), none, none, none] [] h Q
  have pe : ∀ i, pcN hd (i + 1) = pcN hd i + if hd.testBit i = true then 1 else 0 := fun i => by
    show pcN hd i + (hd >>> i) % 2 = _
    rw [Nat.shiftRight_eq_div_pow, tb_mod]
  have lp : ∀ (k i : Nat) (tu : Int) (g : Hp), k + i = 7 → (tu = 0 ∧ (∀ j, j < i → ¬ hd.testBit j = true) ∨ (tu = 1 ∨ tu = -1) ∧ ∃ j, j < i ∧ hd.testBit j = true) → (∀ j, j < i → hd.testBit j = true → 0 < tu * raF S hd j) → fi (fun q => q = x + 3) h g → (∀ j, j < i → zJ g (x + 3) j = lI (if hd.testBit j = true then tu * raF S hd j else 0)) → PW (d + 8) 28 6 [some (.ref x), some (.int (iI hd)), some (.int (iI (if pcN hd i % 2 = 0 then 1 else -1))), some (.int (iI tu)), some (.int (iI i))] [] g Q := by
    intro k
    induction k with
    | zero =>
      intro i tu g hk ht hp f hJ
      have e : i = 7 := by omega
      subst e
      refine vs_ok 3 ?_
      rw [show ((gRes 28).drop 6).take 3 = [.iload 4, .iconst 7, .if_icmp .ge 73] from rfl]
      simp (disch := omega) only [vs_iconst, vs_if_icmp, vs_iload4, vs_nil, gv_0, gv_1, gv_2, gv_3, pv_0, pv_1, va_rf_s, Nat.reduceDiv, Nat.reduceMod, Nat.reduceAdd, Nat.reduceMul, Int.reduceToNat, true_and, and_true, and_self, cP_eq, cP_ne, cP_lt, cP_ge, cP_gt, cP_le, eL_i, eL_l, eL_r, eL_n, Option.toList_none, Option.toList_some, List.nil_append, List.cons_append, kkI, llI, nnI, rrI, jjI, kkJ, llJ, nnJ, rrJ, iiJ, zIIs, zJJs, nEF, nET, and_false, false_and, jmin, jmax, catS_n, catS_i, catS_r, catS_l, Nat.reduceLeDiff, j1eq1, n21, jt0, jt1, Bool.false_eq_true, Classical.not_not, true_or, or_true, false_or, or_false, true_imp_iff, false_imp_iff, not_true_eq_false, not_false_eq_true, jif0, jif1, jifb, ltT, ltF, leT, leF, eqT, eqF, jlt, jle, jeq, jlt0, jle0, jeq0, jge0, jgt0, jinB, jnat, clt, cle, ceq, cgt, cge, lI_add, lI_sub, lI_mul, jadd, jsub, jmul, jneg, jtol, b010, b011, pv_2t, Int.toNat_natCast, Option.some.injEq, exists_eq_left', if_true, if_false]
      refine vs_ok 2 ?_
      rw [show ((gRes 28).drop 73).take 2 = [.iconst 1, .ireturn] from rfl]
      simp (disch := omega) only [vs_iconst, vs_ireturn, vs_nil, gv_0, gv_1, gv_2, gv_3, pv_0, pv_1, va_rf_s, Nat.reduceDiv, Nat.reduceMod, Nat.reduceAdd, Nat.reduceMul, Int.reduceToNat, true_and, and_true, and_self, cP_eq, cP_ne, cP_lt, cP_ge, cP_gt, cP_le, eL_i, eL_l, eL_r, eL_n, Option.toList_none, Option.toList_some, List.nil_append, List.cons_append, kkI, llI, nnI, rrI, jjI, kkJ, llJ, nnJ, rrJ, iiJ, zIIs, zJJs, nEF, nET, and_false, false_and, jmin, jmax, catS_n, catS_i, catS_r, catS_l, Nat.reduceLeDiff, j1eq1, n21, jt0, jt1, Bool.false_eq_true, Classical.not_not, true_or, or_true, false_or, or_false, true_imp_iff, false_imp_iff, not_true_eq_false, not_false_eq_true, jif0, jif1, jifb, ltT, ltF, leT, leF, eqT, eqF, jlt, jle, jeq, jlt0, jle0, jeq0, jge0, jgt0, jinB, jnat, clt, cle, ceq, cgt, cge, lI_add, lI_sub, lI_mul, jadd, jsub, jmul, jneg, jtol, b010, b011, pv_2t, Int.toNat_natCast, Option.some.injEq, exists_eq_left', if_true, if_false, show gRc 28 = 2 from rfl]
      have ht' : tu = 1 ∨ tu = -1 := by
        rcases ht with ⟨z1, z2⟩ | ⟨z1, z2⟩
        · exfalso
          have : hd = 0 := by
            apply Nat.eq_of_testBit_eq
            intro j
            rw [Nat.zero_testBit]
            by_cases c : j < 7
            · exact Bool.eq_false_iff.mpr (z2 j c)
            · exact Nat.testBit_lt_two_pow (Nat.lt_of_lt_of_le hh.2 (Nat.pow_le_pow_right (n := 2) (by omega) (show 7 ≤ j by omega)))
          omega
        · exact z1
      refine hq1 (fun i => if hd.testBit i = true then tu * raF S hd i else 0) ⟨⟨tu, ht', fun i _ => rfl⟩, fun i hi hb => ?_⟩ g f hJ
      show 0 < (if hd.testBit i = true then tu * raF S hd i else 0)
      rw [if_pos hb]
      exact hp i hi hb
    | succ k ih =>
      intro i tu g hk ht hp f hJ
      have N := gaF (ho.fi f)
      have g2 : zI g (x + 2) = zI h (x + 2) := f.1.2.2.2.2.2.1 _ (by omega)
      have pei := pe i
      by_cases cb : hd.testBit i = true
      · rw [if_pos cb] at pei
        have rb := raF_b hS hd i
        generalize hsg : (if pcN hd i % 2 = 0 then (1 : Int) else -1) = sg
        have hsg2 : sg = 1 ∨ sg = -1 := by
          rw [← hsg]
          split <;> omega
        have hsn : (if pcN hd (i + 1) % 2 = 0 then (1 : Int) else -1) = -sg := by
          rw [pei, ← hsg]
          by_cases z : pcN hd i % 2 = 0
          · rw [if_pos z, if_neg (by omega)]
          · rw [if_neg z, if_pos (by omega)]
            rfl
        have hra : sg * pfF S 7 (hd ^^^ 2 ^ i) = raF S hd i := by rw [← hsg]; rfl
        refine vs_ok 15 ?_
        rw [show ((gRes 28).drop 6).take 15 = [.iload 4, .iconst 7, .if_icmp .ge 73, .aload 0, .getfield 2022, .iload 4, .jsr_w 0, .lastore, .iload 1, .iload 4, .ishr, .iconst 1, .iand, .iconst 1, .if_icmp .ne 71] from rfl]
        simp (disch := omega) only [vs_iconst, vs_jsr_w, vs_if_icmp, vs_getfield, vs_lastore, vs_aload0, vs_iload1, vs_iload4, vs_nil, gv_0, gv_1, gv_2, gv_3, pv_0, pv_1, va_rf_s, vs_iand, vs_ishr, Nat.reduceDiv, Nat.reduceMod, Nat.reduceAdd, Nat.reduceMul, Int.reduceToNat, true_and, and_true, and_self, cP_eq, cP_ne, cP_lt, cP_ge, cP_gt, cP_le, eL_i, eL_l, eL_r, eL_n, Option.toList_none, Option.toList_some, List.nil_append, List.cons_append, kkI, llI, nnI, rrI, jjI, kkJ, llJ, nnJ, rrJ, iiJ, zIIs, zJJs, nEF, nET, and_false, false_and, jmin, jmax, catS_n, catS_i, catS_r, catS_l, Nat.reduceLeDiff, j1eq1, n21, jt0, jt1, Bool.false_eq_true, Classical.not_not, true_or, or_true, false_or, or_false, true_imp_iff, false_imp_iff, not_true_eq_false, not_false_eq_true, jif0, jif1, jifb, ltT, ltF, leT, leF, eqT, eqF, jlt, jle, jeq, jlt0, jle0, jeq0, jge0, jgt0, jinB, jnat, clt, cle, ceq, cgt, cge, lI_add, lI_sub, lI_mul, jadd, jsub, jmul, jneg, jtol, b010, b011, pv_2t, Int.toNat_natCast, Option.some.injEq, exists_eq_left', if_true, if_false, N, jbit, cb]
        have f1 : fi (fun q => q = x + 3) g (zsJ g (x + 3) i (lI 0)) := fi_J rfl
        have q1 : ∀ j, j ≠ i → zJ (zsJ g (x + 3) i (lI 0)) (x + 3) j = zJ g (x + 3) j := fun j hj => by rw [zJ_sJ, if_neg (fun z => hj z.2)]
        have q2 : zI (zsJ g (x + 3) i (lI 0)) (x + 2) = zI h (x + 2) := g2
        generalize zsJ g (x + 3) i (lI 0) = g1 at *
        have f2 := f.tr f1
        have N1 := gaF (ho.fi f2)
        refine vs_ok 13 ?_
        rw [show ((gRes 28).drop 21).take 13 = [.aload 0, .getfield 2022, .iload 4, .iload 2, .i2l, .aload 0, .getfield 2012, .iload 1, .iconst 1, .iload 4, .ishl, .ixor, .iconst 7] from rfl]
        simp (disch := omega) only [vs_i2l, vs_iconst, vs_getfield, vs_aload0, vs_iload1, vs_iload2, vs_iload4, vs_nil, gv_0, gv_1, gv_2, gv_3, pv_0, pv_1, va_rf_s, vs_ixor, vs_ishl, Nat.reduceDiv, Nat.reduceMod, Nat.reduceAdd, Nat.reduceMul, Int.reduceToNat, true_and, and_true, and_self, cP_eq, cP_ne, cP_lt, cP_ge, cP_gt, cP_le, eL_i, eL_l, eL_r, eL_n, Option.toList_none, Option.toList_some, List.nil_append, List.cons_append, kkI, llI, nnI, rrI, jjI, kkJ, llJ, nnJ, rrJ, iiJ, zIIs, zJJs, nEF, nET, and_false, false_and, jmin, jmax, catS_n, catS_i, catS_r, catS_l, Nat.reduceLeDiff, j1eq1, n21, jt0, jt1, Bool.false_eq_true, Classical.not_not, true_or, or_true, false_or, or_false, true_imp_iff, false_imp_iff, not_true_eq_false, not_false_eq_true, jif0, jif1, jifb, ltT, ltF, leT, leF, eqT, eqF, jlt, jle, jeq, jlt0, jle0, jeq0, jge0, jgt0, jinB, jnat, clt, cle, ceq, cgt, cge, lI_add, lI_sub, lI_mul, jadd, jsub, jmul, jneg, jtol, b010, b011, pv_2t, Int.toNat_natCast, Option.some.injEq, exists_eq_left', if_true, if_false, N1, jxor, jshl1]
        refine PW.ss (r := [.long (lI sg), .int (iI i), .ref (x + 3)]) rfl (le_b rfl) rfl rfl (le_b rfl) (le_b rfl) ?_
        refine t_pfaffian (a := x + 2) hS 7 d (hd ^^^ 2 ^ i) g1 _ (by omega) (xor_lt hh.2 (p2_lt (n := 7) (by omega))) N1.2.2.1.2 (fun j hj => by rw [q2]; exact hs j hj) ⟨rfl, ⟨rfl, rfl⟩, ?_⟩
        refine vs_ok 2 ?_
        rw [show ((gRes 28).drop 35).take 2 = [.lmul, .lastore] from rfl]
        simp (disch := omega) only [vs_lmul, vs_lastore, vs_nil, gv_0, gv_1, gv_2, gv_3, pv_0, pv_1, va_rf_s, Nat.reduceDiv, Nat.reduceMod, Nat.reduceAdd, Nat.reduceMul, Int.reduceToNat, true_and, and_true, and_self, cP_eq, cP_ne, cP_lt, cP_ge, cP_gt, cP_le, eL_i, eL_l, eL_r, eL_n, Option.toList_none, Option.toList_some, List.nil_append, List.cons_append, kkI, llI, nnI, rrI, jjI, kkJ, llJ, nnJ, rrJ, iiJ, zIIs, zJJs, nEF, nET, and_false, false_and, jmin, jmax, catS_n, catS_i, catS_r, catS_l, Nat.reduceLeDiff, j1eq1, n21, jt0, jt1, Bool.false_eq_true, Classical.not_not, true_or, or_true, false_or, or_false, true_imp_iff, false_imp_iff, not_true_eq_false, not_false_eq_true, jif0, jif1, jifb, ltT, ltF, leT, leF, eqT, eqF, jlt, jle, jeq, jlt0, jle0, jeq0, jge0, jgt0, jinB, jnat, clt, cle, ceq, cgt, cge, lI_add, lI_sub, lI_mul, jadd, jsub, jmul, jneg, jtol, b010, b011, pv_2t, Int.toNat_natCast, Option.some.injEq, exists_eq_left', if_true, if_false, N1, hra]
        have f3 : fi (fun q => q = x + 3) h (zsJ g1 (x + 3) i (lI (raF S hd i))) := f2.J rfl
        have q3 : ∀ j, j < i → zJ (zsJ g1 (x + 3) i (lI (raF S hd i))) (x + 3) j = lI (if hd.testBit j = true then tu * raF S hd j else 0) := fun j hj => by
          rw [zJ_sJ, if_neg (by omega), q1 j (by omega)]
          exact hJ j hj
        have q4 : zJ (zsJ g1 (x + 3) i (lI (raF S hd i))) (x + 3) i = lI (raF S hd i) := by rw [zJ_sJ, if_pos ⟨rfl, rfl⟩]
        generalize zsJ g1 (x + 3) i (lI (raF S hd i)) = g2 at *
        have N2 := gaF (ho.fi f3)
        have p53 : ∀ (t2 : Int), (t2 = 1 ∨ t2 = -1) → (∀ j, j < i → hd.testBit j = true → 0 < t2 * raF S hd j) → (∀ j, j < i → hd.testBit j = true → t2 = tu) → (t2 * raF S hd i ≤ 0 → ∀ T, ¬ wgP S hd T) → PW (d + 8) 28 53 [some (.ref x), some (.int (iI hd)), some (.int (iI (-sg))), some (.int (iI t2)), some (.int (iI i))] [] g2 Q := fun t2 ht2 hp2 he2 hbad => by
          have rb2 : -823543 ≤ raF S hd i * t2 ∧ raF S hd i * t2 ≤ 823543 ∧ raF S hd i * t2 = t2 * raF S hd i := by
            rcases ht2 with z | z <;> subst z <;> omega
          refine vs_ok 9 ?_
          rw [show ((gRes 28).drop 53).take 9 = [.aload 0, .getfield 2022, .iload 4, .dup2, .laload, .iload 3, .i2l, .lmul, .lastore] from rfl]
          simp (disch := omega) only [vs_lmul, vs_i2l, vs_getfield, vs_laload, vs_lastore, vs_dup2, vs_aload0, vs_iload3, vs_iload4, vs_nil, gv_0, gv_1, gv_2, gv_3, pv_0, pv_1, va_rf_s, Nat.reduceDiv, Nat.reduceMod, Nat.reduceAdd, Nat.reduceMul, Int.reduceToNat, true_and, and_true, and_self, cP_eq, cP_ne, cP_lt, cP_ge, cP_gt, cP_le, eL_i, eL_l, eL_r, eL_n, Option.toList_none, Option.toList_some, List.nil_append, List.cons_append, kkI, llI, nnI, rrI, jjI, kkJ, llJ, nnJ, rrJ, iiJ, zIIs, zJJs, nEF, nET, and_false, false_and, jmin, jmax, catS_n, catS_i, catS_r, catS_l, Nat.reduceLeDiff, j1eq1, n21, jt0, jt1, Bool.false_eq_true, Classical.not_not, true_or, or_true, false_or, or_false, true_imp_iff, false_imp_iff, not_true_eq_false, not_false_eq_true, jif0, jif1, jifb, ltT, ltF, leT, leF, eqT, eqF, jlt, jle, jeq, jlt0, jle0, jeq0, jge0, jgt0, jinB, jnat, clt, cle, ceq, cgt, cge, lI_add, lI_sub, lI_mul, jadd, jsub, jmul, jneg, jtol, b010, b011, pv_2t, Int.toNat_natCast, Option.some.injEq, exists_eq_left', if_true, if_false, N2, q4]
          by_cases c : 0 < raF S hd i * t2
          · refine vs_ok 7 ?_
            rw [show ((gRes 28).drop 62).take 7 = [.aload 0, .getfield 2022, .iload 4, .laload, .jsr_w 0, .lcmp, .ifCond .gt 71] from rfl]
            simp (disch := omega) only [vs_lcmp, vs_jsr_w, vs_ifCond, vs_getfield, vs_laload, vs_aload0, vs_iload4, vs_nil, gv_0, gv_1, gv_2, gv_3, pv_0, pv_1, va_rf_s, Nat.reduceDiv, Nat.reduceMod, Nat.reduceAdd, Nat.reduceMul, Int.reduceToNat, true_and, and_true, and_self, cP_eq, cP_ne, cP_lt, cP_ge, cP_gt, cP_le, eL_i, eL_l, eL_r, eL_n, Option.toList_none, Option.toList_some, List.nil_append, List.cons_append, kkI, llI, nnI, rrI, jjI, kkJ, llJ, nnJ, rrJ, iiJ, zIIs, zJJs, nEF, nET, and_false, false_and, jmin, jmax, catS_n, catS_i, catS_r, catS_l, Nat.reduceLeDiff, j1eq1, n21, jt0, jt1, Bool.false_eq_true, Classical.not_not, true_or, or_true, false_or, or_false, true_imp_iff, false_imp_iff, not_true_eq_false, not_false_eq_true, jif0, jif1, jifb, ltT, ltF, leT, leF, eqT, eqF, jlt, jle, jeq, jlt0, jle0, jeq0, jge0, jgt0, jinB, jnat, clt, cle, ceq, cgt, cge, lI_add, lI_sub, lI_mul, jadd, jsub, jmul, jneg, jtol, b010, b011, pv_2t, Int.toNat_natCast, Option.some.injEq, exists_eq_left', if_true, if_false, N2]
            refine vs_ok 2 ?_
            rw [show ((gRes 28).drop 71).take 2 = [.iinc 4 1, .goto 6] from rfl]
            simp (disch := omega) only [vs_goto, vs_iinc4n, vs_iinc4i, vs_iinc4r, vs_iinc4l, vs_nil, gv_0, gv_1, gv_2, gv_3, pv_0, pv_1, va_rf_s, Nat.reduceDiv, Nat.reduceMod, Nat.reduceAdd, Nat.reduceMul, Int.reduceToNat, true_and, and_true, and_self, cP_eq, cP_ne, cP_lt, cP_ge, cP_gt, cP_le, eL_i, eL_l, eL_r, eL_n, Option.toList_none, Option.toList_some, List.nil_append, List.cons_append, kkI, llI, nnI, rrI, jjI, kkJ, llJ, nnJ, rrJ, iiJ, zIIs, zJJs, nEF, nET, and_false, false_and, jmin, jmax, catS_n, catS_i, catS_r, catS_l, Nat.reduceLeDiff, j1eq1, n21, jt0, jt1, Bool.false_eq_true, Classical.not_not, true_or, or_true, false_or, or_false, true_imp_iff, false_imp_iff, not_true_eq_false, not_false_eq_true, jif0, jif1, jifb, ltT, ltF, leT, leF, eqT, eqF, jlt, jle, jeq, jlt0, jle0, jeq0, jge0, jgt0, jinB, jnat, clt, cle, ceq, cgt, cge, lI_add, lI_sub, lI_mul, jadd, jsub, jmul, jneg, jtol, b010, b011, pv_2t, Int.toNat_natCast, Option.some.injEq, exists_eq_left', if_true, if_false]
            have := ih (i + 1) t2 (zsJ g2 (x + 3) i (lI (raF S hd i * t2))) (by omega) (Or.inr ⟨ht2, i, by omega, cb⟩) (fun j hj hb => ?_) (f3.J rfl) fun j hj => ?_
            · rw [hsn] at this
              exact this
            · by_cases y : j = i
              · rw [y]
                omega
              · exact hp2 j (by omega) hb
            · rw [zJ_sJ]
              by_cases y : j = i
              · rw [if_pos ⟨rfl, y⟩, y, if_pos cb, rb2.2.2]
              · rw [if_neg (fun z => y z.2), q3 j (by omega)]
                by_cases hb : hd.testBit j = true
                · rw [if_pos hb, if_pos hb, he2 j (by omega) hb]
                · rw [if_neg hb, if_neg hb]
          · refine vs_ok 7 ?_
            rw [show ((gRes 28).drop 62).take 7 = [.aload 0, .getfield 2022, .iload 4, .laload, .jsr_w 0, .lcmp, .ifCond .gt 71] from rfl]
            simp (disch := omega) only [vs_lcmp, vs_jsr_w, vs_ifCond, vs_getfield, vs_laload, vs_aload0, vs_iload4, vs_nil, gv_0, gv_1, gv_2, gv_3, pv_0, pv_1, va_rf_s, Nat.reduceDiv, Nat.reduceMod, Nat.reduceAdd, Nat.reduceMul, Int.reduceToNat, true_and, and_true, and_self, cP_eq, cP_ne, cP_lt, cP_ge, cP_gt, cP_le, eL_i, eL_l, eL_r, eL_n, Option.toList_none, Option.toList_some, List.nil_append, List.cons_append, kkI, llI, nnI, rrI, jjI, kkJ, llJ, nnJ, rrJ, iiJ, zIIs, zJJs, nEF, nET, and_false, false_and, jmin, jmax, catS_n, catS_i, catS_r, catS_l, Nat.reduceLeDiff, j1eq1, n21, jt0, jt1, Bool.false_eq_true, Classical.not_not, true_or, or_true, false_or, or_false, true_imp_iff, false_imp_iff, not_true_eq_false, not_false_eq_true, jif0, jif1, jifb, ltT, ltF, leT, leF, eqT, eqF, jlt, jle, jeq, jlt0, jle0, jeq0, jge0, jgt0, jinB, jnat, clt, cle, ceq, cgt, cge, lI_add, lI_sub, lI_mul, jadd, jsub, jmul, jneg, jtol, b010, b011, pv_2t, Int.toNat_natCast, Option.some.injEq, exists_eq_left', if_true, if_false, N2]
            refine vs_ok 2 ?_
            rw [show ((gRes 28).drop 69).take 2 = [.iconst 0, .ireturn] from rfl]
            simp (disch := omega) only [vs_iconst, vs_ireturn, vs_nil, gv_0, gv_1, gv_2, gv_3, pv_0, pv_1, va_rf_s, Nat.reduceDiv, Nat.reduceMod, Nat.reduceAdd, Nat.reduceMul, Int.reduceToNat, true_and, and_true, and_self, cP_eq, cP_ne, cP_lt, cP_ge, cP_gt, cP_le, eL_i, eL_l, eL_r, eL_n, Option.toList_none, Option.toList_some, List.nil_append, List.cons_append, kkI, llI, nnI, rrI, jjI, kkJ, llJ, nnJ, rrJ, iiJ, zIIs, zJJs, nEF, nET, and_false, false_and, jmin, jmax, catS_n, catS_i, catS_r, catS_l, Nat.reduceLeDiff, j1eq1, n21, jt0, jt1, Bool.false_eq_true, Classical.not_not, true_or, or_true, false_or, or_false, true_imp_iff, false_imp_iff, not_true_eq_false, not_false_eq_true, jif0, jif1, jifb, ltT, ltF, leT, leF, eqT, eqF, jlt, jle, jeq, jlt0, jle0, jeq0, jge0, jgt0, jinB, jnat, clt, cle, ceq, cgt, cge, lI_add, lI_sub, lI_mul, jadd, jsub, jmul, jneg, jtol, b010, b011, pv_2t, Int.toNat_natCast, Option.some.injEq, exists_eq_left', if_true, if_false, show gRc 28 = 2 from rfl]
            exact hq0 (hbad (by omega)) _ (f3.J rfl)
        rcases ht with ⟨z1, z2⟩ | ⟨z1, j0, z2, z3⟩
        · subst z1
          refine vs_ok 5 ?_
          rw [show ((gRes 28).drop 37).take 5 = [.iload 2, .ineg, .istore 2, .iload 3, .ifCond .ne 53] from rfl]
          simp (disch := omega) only [vs_ifCond, vs_iload2, vs_istore2n, vs_istore2i, vs_istore2r, vs_istore2l, vs_iload3, vs_nil, gv_0, gv_1, gv_2, gv_3, pv_0, pv_1, va_rf_s, vs_ineg, Nat.reduceDiv, Nat.reduceMod, Nat.reduceAdd, Nat.reduceMul, Int.reduceToNat, true_and, and_true, and_self, cP_eq, cP_ne, cP_lt, cP_ge, cP_gt, cP_le, eL_i, eL_l, eL_r, eL_n, Option.toList_none, Option.toList_some, List.nil_append, List.cons_append, kkI, llI, nnI, rrI, jjI, kkJ, llJ, nnJ, rrJ, iiJ, zIIs, zJJs, nEF, nET, and_false, false_and, jmin, jmax, catS_n, catS_i, catS_r, catS_l, Nat.reduceLeDiff, j1eq1, n21, jt0, jt1, Bool.false_eq_true, Classical.not_not, true_or, or_true, false_or, or_false, true_imp_iff, false_imp_iff, not_true_eq_false, not_false_eq_true, jif0, jif1, jifb, ltT, ltF, leT, leF, eqT, eqF, jlt, jle, jeq, jlt0, jle0, jeq0, jge0, jgt0, jinB, jnat, clt, cle, ceq, cgt, cge, lI_add, lI_sub, lI_mul, jadd, jsub, jmul, jneg, jtol, b010, b011, pv_2t, Int.toNat_natCast, Option.some.injEq, exists_eq_left', if_true, if_false]
          by_cases cn : raF S hd i < 0
          · refine vs_ok 7 ?_
            rw [show ((gRes 28).drop 42).take 7 = [.aload 0, .getfield 2022, .iload 4, .laload, .jsr_w 0, .lcmp, .ifCond .ge 51] from rfl]
            simp (disch := omega) only [vs_lcmp, vs_jsr_w, vs_ifCond, vs_getfield, vs_laload, vs_aload0, vs_iload4, vs_nil, gv_0, gv_1, gv_2, gv_3, pv_0, pv_1, va_rf_s, Nat.reduceDiv, Nat.reduceMod, Nat.reduceAdd, Nat.reduceMul, Int.reduceToNat, true_and, and_true, and_self, cP_eq, cP_ne, cP_lt, cP_ge, cP_gt, cP_le, eL_i, eL_l, eL_r, eL_n, Option.toList_none, Option.toList_some, List.nil_append, List.cons_append, kkI, llI, nnI, rrI, jjI, kkJ, llJ, nnJ, rrJ, iiJ, zIIs, zJJs, nEF, nET, and_false, false_and, jmin, jmax, catS_n, catS_i, catS_r, catS_l, Nat.reduceLeDiff, j1eq1, n21, jt0, jt1, Bool.false_eq_true, Classical.not_not, true_or, or_true, false_or, or_false, true_imp_iff, false_imp_iff, not_true_eq_false, not_false_eq_true, jif0, jif1, jifb, ltT, ltF, leT, leF, eqT, eqF, jlt, jle, jeq, jlt0, jle0, jeq0, jge0, jgt0, jinB, jnat, clt, cle, ceq, cgt, cge, lI_add, lI_sub, lI_mul, jadd, jsub, jmul, jneg, jtol, b010, b011, pv_2t, Int.toNat_natCast, Option.some.injEq, exists_eq_left', if_true, if_false, N2, q4]
            refine vs_ok 1 ?_
            rw [show ((gRes 28).drop 49).take 1 = [.iconst (-1)] from rfl]
            simp (disch := omega) only [vs_iconst, vs_nil, gv_0, gv_1, gv_2, gv_3, pv_0, pv_1, va_rf_s, Nat.reduceDiv, Nat.reduceMod, Nat.reduceAdd, Nat.reduceMul, Int.reduceToNat, true_and, and_true, and_self, cP_eq, cP_ne, cP_lt, cP_ge, cP_gt, cP_le, eL_i, eL_l, eL_r, eL_n, Option.toList_none, Option.toList_some, List.nil_append, List.cons_append, kkI, llI, nnI, rrI, jjI, kkJ, llJ, nnJ, rrJ, iiJ, zIIs, zJJs, nEF, nET, and_false, false_and, jmin, jmax, catS_n, catS_i, catS_r, catS_l, Nat.reduceLeDiff, j1eq1, n21, jt0, jt1, Bool.false_eq_true, Classical.not_not, true_or, or_true, false_or, or_false, true_imp_iff, false_imp_iff, not_true_eq_false, not_false_eq_true, jif0, jif1, jifb, ltT, ltF, leT, leF, eqT, eqF, jlt, jle, jeq, jlt0, jle0, jeq0, jge0, jgt0, jinB, jnat, clt, cle, ceq, cgt, cge, lI_add, lI_sub, lI_mul, jadd, jsub, jmul, jneg, jtol, b010, b011, pv_2t, Int.toNat_natCast, Option.some.injEq, exists_eq_left', if_true, if_false]
            refine vs_ok 1 ?_
            rw [show ((gRes 28).drop 50).take 1 = [.goto 52] from rfl]
            simp (disch := omega) only [vs_goto, vs_nil, gv_0, gv_1, gv_2, gv_3, pv_0, pv_1, va_rf_s, Nat.reduceDiv, Nat.reduceMod, Nat.reduceAdd, Nat.reduceMul, Int.reduceToNat, true_and, and_true, and_self, cP_eq, cP_ne, cP_lt, cP_ge, cP_gt, cP_le, eL_i, eL_l, eL_r, eL_n, Option.toList_none, Option.toList_some, List.nil_append, List.cons_append, kkI, llI, nnI, rrI, jjI, kkJ, llJ, nnJ, rrJ, iiJ, zIIs, zJJs, nEF, nET, and_false, false_and, jmin, jmax, catS_n, catS_i, catS_r, catS_l, Nat.reduceLeDiff, j1eq1, n21, jt0, jt1, Bool.false_eq_true, Classical.not_not, true_or, or_true, false_or, or_false, true_imp_iff, false_imp_iff, not_true_eq_false, not_false_eq_true, jif0, jif1, jifb, ltT, ltF, leT, leF, eqT, eqF, jlt, jle, jeq, jlt0, jle0, jeq0, jge0, jgt0, jinB, jnat, clt, cle, ceq, cgt, cge, lI_add, lI_sub, lI_mul, jadd, jsub, jmul, jneg, jtol, b010, b011, pv_2t, Int.toNat_natCast, Option.some.injEq, exists_eq_left', if_true, if_false]
            refine vs_ok 1 ?_
            rw [show ((gRes 28).drop 52).take 1 = [.istore 3] from rfl]
            simp (disch := omega) only [vs_istore3n, vs_istore3i, vs_istore3r, vs_istore3l, vs_nil, gv_0, gv_1, gv_2, gv_3, pv_0, pv_1, va_rf_s, Nat.reduceDiv, Nat.reduceMod, Nat.reduceAdd, Nat.reduceMul, Int.reduceToNat, true_and, and_true, and_self, cP_eq, cP_ne, cP_lt, cP_ge, cP_gt, cP_le, eL_i, eL_l, eL_r, eL_n, Option.toList_none, Option.toList_some, List.nil_append, List.cons_append, kkI, llI, nnI, rrI, jjI, kkJ, llJ, nnJ, rrJ, iiJ, zIIs, zJJs, nEF, nET, and_false, false_and, jmin, jmax, catS_n, catS_i, catS_r, catS_l, Nat.reduceLeDiff, j1eq1, n21, jt0, jt1, Bool.false_eq_true, Classical.not_not, true_or, or_true, false_or, or_false, true_imp_iff, false_imp_iff, not_true_eq_false, not_false_eq_true, jif0, jif1, jifb, ltT, ltF, leT, leF, eqT, eqF, jlt, jle, jeq, jlt0, jle0, jeq0, jge0, jgt0, jinB, jnat, clt, cle, ceq, cgt, cge, lI_add, lI_sub, lI_mul, jadd, jsub, jmul, jneg, jtol, b010, b011, pv_2t, Int.toNat_natCast, Option.some.injEq, exists_eq_left', if_true, if_false]
            refine p53 (-1) (Or.inr rfl) (fun j hj hb => absurd hb (z2 j hj)) (fun j hj hb => absurd hb (z2 j hj)) fun z => ?_
            omega
          · refine vs_ok 7 ?_
            rw [show ((gRes 28).drop 42).take 7 = [.aload 0, .getfield 2022, .iload 4, .laload, .jsr_w 0, .lcmp, .ifCond .ge 51] from rfl]
            simp (disch := omega) only [vs_lcmp, vs_jsr_w, vs_ifCond, vs_getfield, vs_laload, vs_aload0, vs_iload4, vs_nil, gv_0, gv_1, gv_2, gv_3, pv_0, pv_1, va_rf_s, Nat.reduceDiv, Nat.reduceMod, Nat.reduceAdd, Nat.reduceMul, Int.reduceToNat, true_and, and_true, and_self, cP_eq, cP_ne, cP_lt, cP_ge, cP_gt, cP_le, eL_i, eL_l, eL_r, eL_n, Option.toList_none, Option.toList_some, List.nil_append, List.cons_append, kkI, llI, nnI, rrI, jjI, kkJ, llJ, nnJ, rrJ, iiJ, zIIs, zJJs, nEF, nET, and_false, false_and, jmin, jmax, catS_n, catS_i, catS_r, catS_l, Nat.reduceLeDiff, j1eq1, n21, jt0, jt1, Bool.false_eq_true, Classical.not_not, true_or, or_true, false_or, or_false, true_imp_iff, false_imp_iff, not_true_eq_false, not_false_eq_true, jif0, jif1, jifb, ltT, ltF, leT, leF, eqT, eqF, jlt, jle, jeq, jlt0, jle0, jeq0, jge0, jgt0, jinB, jnat, clt, cle, ceq, cgt, cge, lI_add, lI_sub, lI_mul, jadd, jsub, jmul, jneg, jtol, b010, b011, pv_2t, Int.toNat_natCast, Option.some.injEq, exists_eq_left', if_true, if_false, N2, q4]
            refine vs_ok 2 ?_
            rw [show ((gRes 28).drop 51).take 2 = [.iconst 1, .istore 3] from rfl]
            simp (disch := omega) only [vs_iconst, vs_istore3n, vs_istore3i, vs_istore3r, vs_istore3l, vs_nil, gv_0, gv_1, gv_2, gv_3, pv_0, pv_1, va_rf_s, Nat.reduceDiv, Nat.reduceMod, Nat.reduceAdd, Nat.reduceMul, Int.reduceToNat, true_and, and_true, and_self, cP_eq, cP_ne, cP_lt, cP_ge, cP_gt, cP_le, eL_i, eL_l, eL_r, eL_n, Option.toList_none, Option.toList_some, List.nil_append, List.cons_append, kkI, llI, nnI, rrI, jjI, kkJ, llJ, nnJ, rrJ, iiJ, zIIs, zJJs, nEF, nET, and_false, false_and, jmin, jmax, catS_n, catS_i, catS_r, catS_l, Nat.reduceLeDiff, j1eq1, n21, jt0, jt1, Bool.false_eq_true, Classical.not_not, true_or, or_true, false_or, or_false, true_imp_iff, false_imp_iff, not_true_eq_false, not_false_eq_true, jif0, jif1, jifb, ltT, ltF, leT, leF, eqT, eqF, jlt, jle, jeq, jlt0, jle0, jeq0, jge0, jgt0, jinB, jnat, clt, cle, ceq, cgt, cge, lI_add, lI_sub, lI_mul, jadd, jsub, jmul, jneg, jtol, b010, b011, pv_2t, Int.toNat_natCast, Option.some.injEq, exists_eq_left', if_true, if_false]
            refine p53 1 (Or.inl rfl) (fun j hj hb => absurd hb (z2 j hj)) (fun j hj hb => absurd hb (z2 j hj)) fun z T hT => ?_
            obtain ⟨⟨t3, h1, h2⟩, h3⟩ := hT
            have e1 := h2 i (by omega)
            have e2 := h3 i (by omega) cb
            rw [if_pos cb] at e1
            rcases h1 with y | y <;> subst y <;> omega
        · refine vs_ok 5 ?_
          rw [show ((gRes 28).drop 37).take 5 = [.iload 2, .ineg, .istore 2, .iload 3, .ifCond .ne 53] from rfl]
          simp (disch := omega) only [vs_ifCond, vs_iload2, vs_istore2n, vs_istore2i, vs_istore2r, vs_istore2l, vs_iload3, vs_nil, gv_0, gv_1, gv_2, gv_3, pv_0, pv_1, va_rf_s, vs_ineg, Nat.reduceDiv, Nat.reduceMod, Nat.reduceAdd, Nat.reduceMul, Int.reduceToNat, true_and, and_true, and_self, cP_eq, cP_ne, cP_lt, cP_ge, cP_gt, cP_le, eL_i, eL_l, eL_r, eL_n, Option.toList_none, Option.toList_some, List.nil_append, List.cons_append, kkI, llI, nnI, rrI, jjI, kkJ, llJ, nnJ, rrJ, iiJ, zIIs, zJJs, nEF, nET, and_false, false_and, jmin, jmax, catS_n, catS_i, catS_r, catS_l, Nat.reduceLeDiff, j1eq1, n21, jt0, jt1, Bool.false_eq_true, Classical.not_not, true_or, or_true, false_or, or_false, true_imp_iff, false_imp_iff, not_true_eq_false, not_false_eq_true, jif0, jif1, jifb, ltT, ltF, leT, leF, eqT, eqF, jlt, jle, jeq, jlt0, jle0, jeq0, jge0, jgt0, jinB, jnat, clt, cle, ceq, cgt, cge, lI_add, lI_sub, lI_mul, jadd, jsub, jmul, jneg, jtol, b010, b011, pv_2t, Int.toNat_natCast, Option.some.injEq, exists_eq_left', if_true, if_false]
          refine p53 tu z1 hp (fun _ _ _ => rfl) fun z T hT => ?_
          obtain ⟨⟨t3, h1, h2⟩, h3⟩ := hT
          have e1 := h2 i (by omega)
          have e2 := h3 i (by omega) cb
          have e3 := h2 j0 (by omega)
          have e4 := h3 j0 (by omega) z3
          have e5 := hp j0 z2 z3
          rw [if_pos cb] at e1
          rw [if_pos z3] at e3
          rcases h1 with y | y <;> rcases z1 with w | w <;> subst y <;> subst w <;> omega
      · rw [if_neg cb] at pei
        refine vs_ok 15 ?_
        rw [show ((gRes 28).drop 6).take 15 = [.iload 4, .iconst 7, .if_icmp .ge 73, .aload 0, .getfield 2022, .iload 4, .jsr_w 0, .lastore, .iload 1, .iload 4, .ishr, .iconst 1, .iand, .iconst 1, .if_icmp .ne 71] from rfl]
        simp (disch := omega) only [vs_iconst, vs_jsr_w, vs_if_icmp, vs_getfield, vs_lastore, vs_aload0, vs_iload1, vs_iload4, vs_nil, gv_0, gv_1, gv_2, gv_3, pv_0, pv_1, va_rf_s, vs_iand, vs_ishr, Nat.reduceDiv, Nat.reduceMod, Nat.reduceAdd, Nat.reduceMul, Int.reduceToNat, true_and, and_true, and_self, cP_eq, cP_ne, cP_lt, cP_ge, cP_gt, cP_le, eL_i, eL_l, eL_r, eL_n, Option.toList_none, Option.toList_some, List.nil_append, List.cons_append, kkI, llI, nnI, rrI, jjI, kkJ, llJ, nnJ, rrJ, iiJ, zIIs, zJJs, nEF, nET, and_false, false_and, jmin, jmax, catS_n, catS_i, catS_r, catS_l, Nat.reduceLeDiff, j1eq1, n21, jt0, jt1, Bool.false_eq_true, Classical.not_not, true_or, or_true, false_or, or_false, true_imp_iff, false_imp_iff, not_true_eq_false, not_false_eq_true, jif0, jif1, jifb, ltT, ltF, leT, leF, eqT, eqF, jlt, jle, jeq, jlt0, jle0, jeq0, jge0, jgt0, jinB, jnat, clt, cle, ceq, cgt, cge, lI_add, lI_sub, lI_mul, jadd, jsub, jmul, jneg, jtol, b010, b011, pv_2t, Int.toNat_natCast, Option.some.injEq, exists_eq_left', if_true, if_false, N, jbit, cb]
        refine vs_ok 2 ?_
        rw [show ((gRes 28).drop 71).take 2 = [.iinc 4 1, .goto 6] from rfl]
        simp (disch := omega) only [vs_goto, vs_iinc4n, vs_iinc4i, vs_iinc4r, vs_iinc4l, vs_nil, gv_0, gv_1, gv_2, gv_3, pv_0, pv_1, va_rf_s, Nat.reduceDiv, Nat.reduceMod, Nat.reduceAdd, Nat.reduceMul, Int.reduceToNat, true_and, and_true, and_self, cP_eq, cP_ne, cP_lt, cP_ge, cP_gt, cP_le, eL_i, eL_l, eL_r, eL_n, Option.toList_none, Option.toList_some, List.nil_append, List.cons_append, kkI, llI, nnI, rrI, jjI, kkJ, llJ, nnJ, rrJ, iiJ, zIIs, zJJs, nEF, nET, and_false, false_and, jmin, jmax, catS_n, catS_i, catS_r, catS_l, Nat.reduceLeDiff, j1eq1, n21, jt0, jt1, Bool.false_eq_true, Classical.not_not, true_or, or_true, false_or, or_false, true_imp_iff, false_imp_iff, not_true_eq_false, not_false_eq_true, jif0, jif1, jifb, ltT, ltF, leT, leF, eqT, eqF, jlt, jle, jeq, jlt0, jle0, jeq0, jge0, jgt0, jinB, jnat, clt, cle, ceq, cgt, cge, lI_add, lI_sub, lI_mul, jadd, jsub, jmul, jneg, jtol, b010, b011, pv_2t, Int.toNat_natCast, Option.some.injEq, exists_eq_left', if_true, if_false]
        have := ih (i + 1) tu (zsJ g (x + 3) i (lI 0)) (by omega) (by
          rcases ht with ⟨z1, z2⟩ | ⟨z1, j0, z2, z3⟩
          · refine Or.inl ⟨z1, fun j hj => ?_⟩
            by_cases y : j = i
            · rw [y]; exact cb
            · exact z2 j (by omega)
          · exact Or.inr ⟨z1, j0, by omega, z3⟩) (fun j hj hb => hp j (by
            by_cases y : j = i
            · rw [y] at hb; exact absurd hb cb
            · omega) hb) (f.J rfl) fun j hj => ?_
        · rw [pei] at this
          exact this
        · rw [zJ_sJ]
          by_cases y : j = i
          · rw [if_pos ⟨rfl, y⟩, y, if_neg cb]
          · rw [if_neg (fun z => y z.2)]
            exact hJ j (by omega)
  refine vs_ok 6 ?_
  rw [show ((gRes 28).drop 0).take 6 = [.iconst 1, .istore 2, .iconst 0, .istore 3, .iconst 0, .istore 4] from rfl]
  simp (disch := omega) only [vs_iconst, vs_istore2n, vs_istore2i, vs_istore2r, vs_istore2l, vs_istore3n, vs_istore3i, vs_istore3r, vs_istore3l, vs_istore4n, vs_istore4i, vs_istore4r, vs_istore4l, vs_nil, gv_0, gv_1, gv_2, gv_3, pv_0, pv_1, va_rf_s, Nat.reduceDiv, Nat.reduceMod, Nat.reduceAdd, Nat.reduceMul, Int.reduceToNat, true_and, and_true, and_self, cP_eq, cP_ne, cP_lt, cP_ge, cP_gt, cP_le, eL_i, eL_l, eL_r, eL_n, Option.toList_none, Option.toList_some, List.nil_append, List.cons_append, kkI, llI, nnI, rrI, jjI, kkJ, llJ, nnJ, rrJ, iiJ, zIIs, zJJs, nEF, nET, and_false, false_and, jmin, jmax, catS_n, catS_i, catS_r, catS_l, Nat.reduceLeDiff, j1eq1, n21, jt0, jt1, Bool.false_eq_true, Classical.not_not, true_or, or_true, false_or, or_false, true_imp_iff, false_imp_iff, not_true_eq_false, not_false_eq_true, jif0, jif1, jifb, ltT, ltF, leT, leF, eqT, eqF, jlt, jle, jeq, jlt0, jle0, jeq0, jge0, jgt0, jinB, jnat, clt, cle, ceq, cgt, cge, lI_add, lI_sub, lI_mul, jadd, jsub, jmul, jneg, jtol, b010, b011, pv_2t, Int.toNat_natCast, Option.some.injEq, exists_eq_left', if_true, if_false]
  exact lp 7 0 0 h (by omega) (Or.inl ⟨rfl, fun j hj => absurd hj (by omega)⟩) (fun j hj => absurd hj (by omega)) fi.rf fun j hj => absurd hj (by omega)
/-- the sum of f over 0 .. n - 1 -/
def siN (f : Nat → Int) : Nat → Int
  | 0 => 0
  | n + 1 => siN f n + f n
theorem siN_b {f : Nat → Int} {B : Int} (h : ∀ i, -B ≤ f i ∧ f i ≤ B) : ∀ n : Nat, -(n * B) ≤ siN f n ∧ siN f n ≤ n * B
  | 0 => by unfold siN; simp
  | n + 1 => by
    have h1 := siN_b h n
    have h2 := h n
    have e : ((n + 1 : Nat) : Int) * B = n * B + B := by
      rw [show ((n + 1 : Nat) : Int) = (n : Int) + 1 by omega, Int.add_mul, Int.one_mul]
    rw [e]
    show -(n * B + B) ≤ siN f n + f n ∧ siN f n + f n ≤ n * B + B
    generalize (n : Int) * B = v at *
    omega
/-- against shares T no member beats more than beat it -/
def stP (n : Nat) (S T : Nat → Int) : Prop := ∀ i, i < n → siN (fun j => S (7 * i + j) * T j) n ≤ 0
theorem t_stands {d : Nat} {h : Hp} {x n : Nat} {S T : Nat → Int} {Q : Nat → Option Value → Hp → Prop} (ho : objA h x 2 gaL) (h4 : zI h x 4 = iI n) (hn : n ≤ 7) (hS : ∀ i, -1 ≤ S i ∧ S i ≤ 1) (hT : ∀ i, -900000 ≤ T i ∧ T i ≤ 900000) (hs : ∀ i, i < 49 → zI h (x + 2) i = iI (S i)) (ht : ∀ i, i < 7 → zJ h (x + 3) i = lI (T i))
    (hq1 : stP n S T → Q 0 (some (.int (iI 1))) h) (hq0 : ¬ stP n S T → Q 0 (some (.int (iI 0))) h) : PR d m_Game_stands [.ref x] h Q := by
  have N := gaF ho
  show PW d 30 0 [some (.ref x), none, none, none, none] [] h Q
  have bd : ∀ i k : Nat, k ≤ 7 → -7000000 ≤ siN (fun j => S (7 * i + j) * T j) k ∧ siN (fun j => S (7 * i + j) * T j) k ≤ 7000000 := fun i k hk => by
    have h1 := siN_b (f := fun j => S (7 * i + j) * T j) (B := 900000) (fun j => by
      have a := hS (7 * i + j)
      have b := hT j
      have c : S (7 * i + j) = -1 ∨ S (7 * i + j) = 0 ∨ S (7 * i + j) = 1 := by omega
      show -900000 ≤ S (7 * i + j) * T j ∧ S (7 * i + j) * T j ≤ 900000
      rcases c with z | z | z <;> rw [z] <;> omega) k
    omega
  have li : ∀ (i : Nat), i < n → (∀ o, PW d 30 33 [some (.ref x), some (.int (iI i)), some (.long (lI (siN (fun j => S (7 * i + j) * T j) n))), none, o] [] h Q) → ∀ (k j : Nat), k + j = n → PW d 30 10 [some (.ref x), some (.int (iI i)), some (.long (lI (siN (fun j => S (7 * i + j) * T j) j))), none, some (.int (iI j))] [] h Q := by
    intro i hi K k
    induction k with
    | zero =>
      intro j hj
      have e : j = n := by omega
      subst e
      refine vs_ok 4 ?_
      rw [show ((gRes 30).drop 10).take 4 = [.iload 4, .aload 0, .getfield 2040, .if_icmp .ge 33] from rfl]
      simp (disch := omega) only [vs_if_icmp, vs_getfield, vs_aload0, vs_iload4, vs_nil, gv_0, gv_1, gv_2, gv_3, pv_0, pv_1, va_rf_s, Nat.reduceDiv, Nat.reduceMod, Nat.reduceAdd, Nat.reduceMul, Int.reduceToNat, true_and, and_true, and_self, cP_eq, cP_ne, cP_lt, cP_ge, cP_gt, cP_le, eL_i, eL_l, eL_r, eL_n, Option.toList_none, Option.toList_some, List.nil_append, List.cons_append, kkI, llI, nnI, rrI, jjI, kkJ, llJ, nnJ, rrJ, iiJ, zIIs, zJJs, nEF, nET, and_false, false_and, jmin, jmax, catS_n, catS_i, catS_r, catS_l, Nat.reduceLeDiff, j1eq1, n21, jt0, jt1, Bool.false_eq_true, Classical.not_not, true_or, or_true, false_or, or_false, true_imp_iff, false_imp_iff, not_true_eq_false, not_false_eq_true, jif0, jif1, jifb, ltT, ltF, leT, leF, eqT, eqF, jlt, jle, jeq, jlt0, jle0, jeq0, jge0, jgt0, jinB, jnat, clt, cle, ceq, cgt, cge, lI_add, lI_sub, lI_mul, jadd, jsub, jmul, jneg, jtol, b010, b011, pv_2t, Int.toNat_natCast, Option.some.injEq, exists_eq_left', if_true, if_false, N, h4]
      exact K _
    | succ k ih =>
      intro j hj
      have e7 : (i : Int) * 7 + (j : Int) = ((7 * i + j : Nat) : Int) := by omega
      have hsb := hS (7 * i + j)
      refine vs_ok 23 ?_
      rw [show ((gRes 30).drop 10).take 23 = [.iload 4, .aload 0, .getfield 2040, .if_icmp .ge 33, .lload 2, .aload 0, .getfield 2012, .iload 1, .iconst 7, .imul, .iload 4, .iadd, .iaload, .i2l, .aload 0, .getfield 2022, .iload 4, .laload, .lmul, .ladd, .lstore 2, .iinc 4 1, .goto 10] from rfl]
      simp (disch := omega) only [vs_iadd, vs_imul, vs_ladd, vs_lmul, vs_i2l, vs_iconst, vs_goto, vs_if_icmp, vs_getfield, vs_iaload, vs_laload, vs_aload0, vs_iload1, vs_lload2, vs_lstore2n, vs_lstore2i, vs_lstore2r, vs_lstore2l, vs_iload4, vs_iinc4n, vs_iinc4i, vs_iinc4r, vs_iinc4l, vs_nil, gv_0, gv_1, gv_2, gv_3, pv_0, pv_1, va_rf_s, Nat.reduceDiv, Nat.reduceMod, Nat.reduceAdd, Nat.reduceMul, Int.reduceToNat, true_and, and_true, and_self, cP_eq, cP_ne, cP_lt, cP_ge, cP_gt, cP_le, eL_i, eL_l, eL_r, eL_n, Option.toList_none, Option.toList_some, List.nil_append, List.cons_append, kkI, llI, nnI, rrI, jjI, kkJ, llJ, nnJ, rrJ, iiJ, zIIs, zJJs, nEF, nET, and_false, false_and, jmin, jmax, catS_n, catS_i, catS_r, catS_l, Nat.reduceLeDiff, j1eq1, n21, jt0, jt1, Bool.false_eq_true, Classical.not_not, true_or, or_true, false_or, or_false, true_imp_iff, false_imp_iff, not_true_eq_false, not_false_eq_true, jif0, jif1, jifb, ltT, ltF, leT, leF, eqT, eqF, jlt, jle, jeq, jlt0, jle0, jeq0, jge0, jgt0, jinB, jnat, clt, cle, ceq, cgt, cge, lI_add, lI_sub, lI_mul, jadd, jsub, jmul, jneg, jtol, b010, b011, pv_2t, Int.toNat_natCast, Option.some.injEq, exists_eq_left', if_true, if_false, N, h4, e7, hs (7 * i + j) (by omega), ht j (by omega)]
      exact ih (j + 1) (by omega)
  have lo : ∀ (k i : Nat) (o2 o4 : Option Value), k + i = n → (∀ i', i' < i → siN (fun j => S (7 * i' + j) * T j) n ≤ 0) → PW d 30 2 [some (.ref x), some (.int (iI i)), o2, none, o4] [] h Q := by
    intro k
    induction k with
    | zero =>
      intro i o2 o4 hi hA
      have e : i = n := by omega
      subst e
      refine vs_ok 4 ?_
      rw [show ((gRes 30).drop 2).take 4 = [.iload 1, .aload 0, .getfield 2040, .if_icmp .ge 41] from rfl]
      simp (disch := omega) only [vs_if_icmp, vs_getfield, vs_aload0, vs_iload1, vs_nil, gv_0, gv_1, gv_2, gv_3, pv_0, pv_1, va_rf_s, Nat.reduceDiv, Nat.reduceMod, Nat.reduceAdd, Nat.reduceMul, Int.reduceToNat, true_and, and_true, and_self, cP_eq, cP_ne, cP_lt, cP_ge, cP_gt, cP_le, eL_i, eL_l, eL_r, eL_n, Option.toList_none, Option.toList_some, List.nil_append, List.cons_append, kkI, llI, nnI, rrI, jjI, kkJ, llJ, nnJ, rrJ, iiJ, zIIs, zJJs, nEF, nET, and_false, false_and, jmin, jmax, catS_n, catS_i, catS_r, catS_l, Nat.reduceLeDiff, j1eq1, n21, jt0, jt1, Bool.false_eq_true, Classical.not_not, true_or, or_true, false_or, or_false, true_imp_iff, false_imp_iff, not_true_eq_false, not_false_eq_true, jif0, jif1, jifb, ltT, ltF, leT, leF, eqT, eqF, jlt, jle, jeq, jlt0, jle0, jeq0, jge0, jgt0, jinB, jnat, clt, cle, ceq, cgt, cge, lI_add, lI_sub, lI_mul, jadd, jsub, jmul, jneg, jtol, b010, b011, pv_2t, Int.toNat_natCast, Option.some.injEq, exists_eq_left', if_true, if_false, N, h4]
      refine vs_ok 2 ?_
      rw [show ((gRes 30).drop 41).take 2 = [.iconst 1, .ireturn] from rfl]
      simp (disch := omega) only [vs_iconst, vs_ireturn, vs_nil, gv_0, gv_1, gv_2, gv_3, pv_0, pv_1, va_rf_s, Nat.reduceDiv, Nat.reduceMod, Nat.reduceAdd, Nat.reduceMul, Int.reduceToNat, true_and, and_true, and_self, cP_eq, cP_ne, cP_lt, cP_ge, cP_gt, cP_le, eL_i, eL_l, eL_r, eL_n, Option.toList_none, Option.toList_some, List.nil_append, List.cons_append, kkI, llI, nnI, rrI, jjI, kkJ, llJ, nnJ, rrJ, iiJ, zIIs, zJJs, nEF, nET, and_false, false_and, jmin, jmax, catS_n, catS_i, catS_r, catS_l, Nat.reduceLeDiff, j1eq1, n21, jt0, jt1, Bool.false_eq_true, Classical.not_not, true_or, or_true, false_or, or_false, true_imp_iff, false_imp_iff, not_true_eq_false, not_false_eq_true, jif0, jif1, jifb, ltT, ltF, leT, leF, eqT, eqF, jlt, jle, jeq, jlt0, jle0, jeq0, jge0, jgt0, jinB, jnat, clt, cle, ceq, cgt, cge, lI_add, lI_sub, lI_mul, jadd, jsub, jmul, jneg, jtol, b010, b011, pv_2t, Int.toNat_natCast, Option.some.injEq, exists_eq_left', if_true, if_false, show gRc 30 = 2 from rfl]
      exact hq1 hA
    | succ k ih =>
      intro i o2 o4 hi hA
      have b := bd i n hn
      refine vs_ok 8 ?_
      rw [show ((gRes 30).drop 2).take 8 = [.iload 1, .aload 0, .getfield 2040, .if_icmp .ge 41, .jsr_w 0, .lstore 2, .iconst 0, .istore 4] from rfl]
      simp (disch := omega) only [vs_iconst, vs_jsr_w, vs_if_icmp, vs_getfield, vs_aload0, vs_iload1, vs_lstore2n, vs_lstore2i, vs_lstore2r, vs_lstore2l, vs_istore4n, vs_istore4i, vs_istore4r, vs_istore4l, vs_nil, gv_0, gv_1, gv_2, gv_3, pv_0, pv_1, va_rf_s, Nat.reduceDiv, Nat.reduceMod, Nat.reduceAdd, Nat.reduceMul, Int.reduceToNat, true_and, and_true, and_self, cP_eq, cP_ne, cP_lt, cP_ge, cP_gt, cP_le, eL_i, eL_l, eL_r, eL_n, Option.toList_none, Option.toList_some, List.nil_append, List.cons_append, kkI, llI, nnI, rrI, jjI, kkJ, llJ, nnJ, rrJ, iiJ, zIIs, zJJs, nEF, nET, and_false, false_and, jmin, jmax, catS_n, catS_i, catS_r, catS_l, Nat.reduceLeDiff, j1eq1, n21, jt0, jt1, Bool.false_eq_true, Classical.not_not, true_or, or_true, false_or, or_false, true_imp_iff, false_imp_iff, not_true_eq_false, not_false_eq_true, jif0, jif1, jifb, ltT, ltF, leT, leF, eqT, eqF, jlt, jle, jeq, jlt0, jle0, jeq0, jge0, jgt0, jinB, jnat, clt, cle, ceq, cgt, cge, lI_add, lI_sub, lI_mul, jadd, jsub, jmul, jneg, jtol, b010, b011, pv_2t, Int.toNat_natCast, Option.some.injEq, exists_eq_left', if_true, if_false, N, h4]
      refine li i (by omega) (fun o => ?_) n 0 (by omega)
      by_cases c : siN (fun j => S (7 * i + j) * T j) n ≤ 0
      · refine vs_ok 4 ?_
        rw [show ((gRes 30).drop 33).take 4 = [.lload 2, .jsr_w 0, .lcmp, .ifCond .le 39] from rfl]
        simp (disch := omega) only [vs_lcmp, vs_jsr_w, vs_ifCond, vs_lload2, vs_nil, gv_0, gv_1, gv_2, gv_3, pv_0, pv_1, va_rf_s, Nat.reduceDiv, Nat.reduceMod, Nat.reduceAdd, Nat.reduceMul, Int.reduceToNat, true_and, and_true, and_self, cP_eq, cP_ne, cP_lt, cP_ge, cP_gt, cP_le, eL_i, eL_l, eL_r, eL_n, Option.toList_none, Option.toList_some, List.nil_append, List.cons_append, kkI, llI, nnI, rrI, jjI, kkJ, llJ, nnJ, rrJ, iiJ, zIIs, zJJs, nEF, nET, and_false, false_and, jmin, jmax, catS_n, catS_i, catS_r, catS_l, Nat.reduceLeDiff, j1eq1, n21, jt0, jt1, Bool.false_eq_true, Classical.not_not, true_or, or_true, false_or, or_false, true_imp_iff, false_imp_iff, not_true_eq_false, not_false_eq_true, jif0, jif1, jifb, ltT, ltF, leT, leF, eqT, eqF, jlt, jle, jeq, jlt0, jle0, jeq0, jge0, jgt0, jinB, jnat, clt, cle, ceq, cgt, cge, lI_add, lI_sub, lI_mul, jadd, jsub, jmul, jneg, jtol, b010, b011, pv_2t, Int.toNat_natCast, Option.some.injEq, exists_eq_left', if_true, if_false]
        refine vs_ok 2 ?_
        rw [show ((gRes 30).drop 39).take 2 = [.iinc 1 1, .goto 2] from rfl]
        simp (disch := omega) only [vs_goto, vs_iinc1n, vs_iinc1i, vs_iinc1r, vs_iinc1l, vs_nil, gv_0, gv_1, gv_2, gv_3, pv_0, pv_1, va_rf_s, Nat.reduceDiv, Nat.reduceMod, Nat.reduceAdd, Nat.reduceMul, Int.reduceToNat, true_and, and_true, and_self, cP_eq, cP_ne, cP_lt, cP_ge, cP_gt, cP_le, eL_i, eL_l, eL_r, eL_n, Option.toList_none, Option.toList_some, List.nil_append, List.cons_append, kkI, llI, nnI, rrI, jjI, kkJ, llJ, nnJ, rrJ, iiJ, zIIs, zJJs, nEF, nET, and_false, false_and, jmin, jmax, catS_n, catS_i, catS_r, catS_l, Nat.reduceLeDiff, j1eq1, n21, jt0, jt1, Bool.false_eq_true, Classical.not_not, true_or, or_true, false_or, or_false, true_imp_iff, false_imp_iff, not_true_eq_false, not_false_eq_true, jif0, jif1, jifb, ltT, ltF, leT, leF, eqT, eqF, jlt, jle, jeq, jlt0, jle0, jeq0, jge0, jgt0, jinB, jnat, clt, cle, ceq, cgt, cge, lI_add, lI_sub, lI_mul, jadd, jsub, jmul, jneg, jtol, b010, b011, pv_2t, Int.toNat_natCast, Option.some.injEq, exists_eq_left', if_true, if_false]
        refine ih (i + 1) _ _ (by omega) fun i' hi' => ?_
        by_cases y : i' = i
        · rw [y]; exact c
        · exact hA i' (by omega)
      · refine vs_ok 4 ?_
        rw [show ((gRes 30).drop 33).take 4 = [.lload 2, .jsr_w 0, .lcmp, .ifCond .le 39] from rfl]
        simp (disch := omega) only [vs_lcmp, vs_jsr_w, vs_ifCond, vs_lload2, vs_nil, gv_0, gv_1, gv_2, gv_3, pv_0, pv_1, va_rf_s, Nat.reduceDiv, Nat.reduceMod, Nat.reduceAdd, Nat.reduceMul, Int.reduceToNat, true_and, and_true, and_self, cP_eq, cP_ne, cP_lt, cP_ge, cP_gt, cP_le, eL_i, eL_l, eL_r, eL_n, Option.toList_none, Option.toList_some, List.nil_append, List.cons_append, kkI, llI, nnI, rrI, jjI, kkJ, llJ, nnJ, rrJ, iiJ, zIIs, zJJs, nEF, nET, and_false, false_and, jmin, jmax, catS_n, catS_i, catS_r, catS_l, Nat.reduceLeDiff, j1eq1, n21, jt0, jt1, Bool.false_eq_true, Classical.not_not, true_or, or_true, false_or, or_false, true_imp_iff, false_imp_iff, not_true_eq_false, not_false_eq_true, jif0, jif1, jifb, ltT, ltF, leT, leF, eqT, eqF, jlt, jle, jeq, jlt0, jle0, jeq0, jge0, jgt0, jinB, jnat, clt, cle, ceq, cgt, cge, lI_add, lI_sub, lI_mul, jadd, jsub, jmul, jneg, jtol, b010, b011, pv_2t, Int.toNat_natCast, Option.some.injEq, exists_eq_left', if_true, if_false]
        refine vs_ok 2 ?_
        rw [show ((gRes 30).drop 37).take 2 = [.iconst 0, .ireturn] from rfl]
        simp (disch := omega) only [vs_iconst, vs_ireturn, vs_nil, gv_0, gv_1, gv_2, gv_3, pv_0, pv_1, va_rf_s, Nat.reduceDiv, Nat.reduceMod, Nat.reduceAdd, Nat.reduceMul, Int.reduceToNat, true_and, and_true, and_self, cP_eq, cP_ne, cP_lt, cP_ge, cP_gt, cP_le, eL_i, eL_l, eL_r, eL_n, Option.toList_none, Option.toList_some, List.nil_append, List.cons_append, kkI, llI, nnI, rrI, jjI, kkJ, llJ, nnJ, rrJ, iiJ, zIIs, zJJs, nEF, nET, and_false, false_and, jmin, jmax, catS_n, catS_i, catS_r, catS_l, Nat.reduceLeDiff, j1eq1, n21, jt0, jt1, Bool.false_eq_true, Classical.not_not, true_or, or_true, false_or, or_false, true_imp_iff, false_imp_iff, not_true_eq_false, not_false_eq_true, jif0, jif1, jifb, ltT, ltF, leT, leF, eqT, eqF, jlt, jle, jeq, jlt0, jle0, jeq0, jge0, jgt0, jinB, jnat, clt, cle, ceq, cgt, cge, lI_add, lI_sub, lI_mul, jadd, jsub, jmul, jneg, jtol, b010, b011, pv_2t, Int.toNat_natCast, Option.some.injEq, exists_eq_left', if_true, if_false, show gRc 30 = 2 from rfl]
        exact hq0 fun z => c (z i (by omega))
  refine vs_ok 2 ?_
  rw [show ((gRes 30).drop 0).take 2 = [.iconst 0, .istore 1] from rfl]
  simp (disch := omega) only [vs_iconst, vs_istore1n, vs_istore1i, vs_istore1r, vs_istore1l, vs_nil, gv_0, gv_1, gv_2, gv_3, pv_0, pv_1, va_rf_s, Nat.reduceDiv, Nat.reduceMod, Nat.reduceAdd, Nat.reduceMul, Int.reduceToNat, true_and, and_true, and_self, cP_eq, cP_ne, cP_lt, cP_ge, cP_gt, cP_le, eL_i, eL_l, eL_r, eL_n, Option.toList_none, Option.toList_some, List.nil_append, List.cons_append, kkI, llI, nnI, rrI, jjI, kkJ, llJ, nnJ, rrJ, iiJ, zIIs, zJJs, nEF, nET, and_false, false_and, jmin, jmax, catS_n, catS_i, catS_r, catS_l, Nat.reduceLeDiff, j1eq1, n21, jt0, jt1, Bool.false_eq_true, Classical.not_not, true_or, or_true, false_or, or_false, true_imp_iff, false_imp_iff, not_true_eq_false, not_false_eq_true, jif0, jif1, jifb, ltT, ltF, leT, leF, eqT, eqF, jlt, jle, jeq, jlt0, jle0, jeq0, jge0, jgt0, jinB, jnat, clt, cle, ceq, cgt, cge, lI_add, lI_sub, lI_mul, jadd, jsub, jmul, jneg, jtol, b010, b011, pv_2t, Int.toNat_natCast, Option.some.injEq, exists_eq_left', if_true, if_false]
  exact lo n 0 _ _ (by omega) fun i hi => absurd hi (by omega)
