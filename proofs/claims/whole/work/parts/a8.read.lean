/-! the Model's read: the whole text -/
/-- FACES of the slots from base on -/
def faS (h : Hp) (m base n : Nat) (F : Nat → Int) (V : Nat → RowVal) (fl : Nat → Nat → Int) : Prop := ∀ k, k < n → zI h (m + 6) (base + k) = iI (F k) ∧ (0 ≤ F k ∧ F k ≤ 12) ∧ (0 < F k → (∀ i, i < (F k).toNat → zI h (m + 5) (12 * (base + k) + i) = iI (fl k i) ∧ 0 ≤ fl k i ∧ fl k i ≤ 60) ∧ ∀ x, (V k).2.2.2 x = fcN (fl k) (F k).toNat x)
theorem faS.of {h g : Hp} {m base n : Nat} {F : Nat → Int} {V : Nat → RowVal} {fl : Nat → Nat → Int} (x : faS h m base n F V fl) (h6 : ∀ j, base ≤ j → j < base + n → zI g (m + 6) j = zI h (m + 6) j) (h5 : ∀ j, 12 * base ≤ j → j < 12 * (base + n) → zI g (m + 5) j = zI h (m + 5) j) : faS g m base n F V fl := fun k hk => by
  obtain ⟨a, b, c⟩ := x k hk
  refine ⟨by rw [h6 _ (by omega) (by omega)]; exact a, b, fun z => ⟨fun i hi => ?_, (c z).2⟩⟩
  rw [h5 _ (by omega) (by omega)]
  exact (c z).1 i hi
/-- the parts of one line's state -/
theorem faS.up {h : Hp} {m base n : Nat} {F : Nat → Int} {V : Nat → RowVal} {fl : Nat → Nat → Int} {c : Nat} {v : RowVal} {f : Nat → Int} (x : faS h m base n F V fl) (h6 : zI h (m + 6) (base + n) = iI (c : Nat)) (hc : c ≤ 12) (hf : 0 < c → (∀ i, i < c → zI h (m + 5) (12 * (base + n) + i) = iI (f i) ∧ 0 ≤ f i ∧ f i ≤ 60) ∧ ∀ x, v.2.2.2 x = fcN f c x) : faS h m base (n + 1) (upI F n c) (upV V n v) (fun k => if k = n then f else fl k) := fun k hk => by
  by_cases z : k = n
  · subst z
    have e1 : upI F k c k = c := if_pos rfl
    have e2 : upV V k v k = v := if_pos rfl
    rw [e1, e2]
    dsimp only
    rw [if_pos rfl, Int.toNat_natCast]
    exact ⟨h6, by omega, fun y => hf (by omega)⟩
  · have e1 : upI F n c k = F k := if_neg z
    have e2 : upV V n v k = V k := if_neg z
    rw [e1, e2]
    dsimp only
    rw [if_neg z]
    exact x k (by omega)
theorem t_M_read {D : Nat} {h : Hp} {m sz : Nat} {B : Nat → Int} {F0 Wd0 : Nat → Int} {V0 : Nat → RowVal} {s0 : R4} {tm0 : Bool} {R : TRes} {Q : Nat → Option Value → Hp → Prop} (x : suG h m sz 0 B Wd0 V0 s0 tm0) (hR : tlS B sz 13 0 F0 Wd0 V0 s0 = some R)
    (gd : R.1 = 0 → ∀ g fl s tm, rdC h g m → R.2.2.1 ≤ 12 → suG g m sz R.2.2.1 B R.2.2.2.2.1 R.2.2.2.2.2 s tm → faS g m 12 R.2.2.1 R.2.2.2.1 R.2.2.2.2.2 fl → Q 0 (some (.int (iI 1))) g)
    (bd : R.1 ≠ 0 → ∀ g, rdF h g m → zI g m 21 = iI R.1 → e22 g m R.2.1 → Q 0 (some (.int (iI 0))) g) : PR (D + 6) m_M_read [.ref m] h Q := by
  show PW (D + 6) 206 0 [some (.ref m), none, none, none, none] [] h Q
  have lp : ∀ (k n : Nat) (F Wd : Nat → Int) (V : Nat → RowVal) (fl : Nat → Nat → Int) (s : R4) (tm : Bool) (g : Hp) (l1 l2 l3 l4 : Option Value), k + n = 13 → tlS B sz k n F Wd V s = some R → rdC h g m → suG g m sz n B Wd V s tm → faS g m 12 n F V fl → PW (D + 6) 206 0 [some (.ref m), l1, l2, l3, l4] [] g Q := by
    intro k
    induction k with
    | zero =>
      intro n F Wd V fl s tm g l1 l2 l3 l4 _ hE
      cases hE
    | succ k ih =>
      intro n F Wd V fl s tm g l1 l2 l3 l4 hk hE rg xg fg
      have M := xg.m.k
      have A7 := xg.m.nameMany
      have n12 := xg.2.2.1.2.1
      have h71 := xg.2.2.1.1
      obtain ⟨tk, h17, htk, et2, et0⟩ := xg.tk
      unfold tlS at hE
      by_cases c0 : s.2.1 = 0 ∧ sz ≤ 500
      · rw [if_pos c0.1, if_neg (by omega)] at hE
        have hE := Option.some.inj hE
        refine vs_ok 3 ?_
        rw [show ((gRes 206).drop 0).take 3 = [.aload 0, .getfield 12170, .ifCond .eq 102] from rfl]
        simp (disch := omega) only [vs_ifCond, vs_getfield, vs_aload0, vs_nil, gv_0, gv_1, gv_2, gv_3, pv_0, pv_1, va_rf_s, Nat.reduceDiv, Nat.reduceMod, Nat.reduceAdd, Nat.reduceMul, Int.reduceToNat, true_and, and_true, and_self, cP_eq, cP_ne, cP_lt, cP_ge, cP_gt, cP_le, eL_i, eL_l, eL_r, eL_n, Option.toList_none, Option.toList_some, List.nil_append, List.cons_append, kkI, llI, nnI, rrI, jjI, kkJ, llJ, nnJ, rrJ, iiJ, zIIs, zJJs, nEF, nET, and_false, false_and, jmin, jmax, catS_n, catS_i, catS_r, catS_l, Nat.reduceLeDiff, j1eq1, n21, jt0, jt1, Bool.false_eq_true, Classical.not_not, true_or, or_true, false_or, or_false, true_imp_iff, false_imp_iff, not_true_eq_false, not_false_eq_true, jif0, jif1, jifb, ltT, ltF, leT, leF, eqT, eqF, jlt, jle, jeq, jlt0, jle0, jeq0, jge0, jgt0, jinB, jnat, clt, cle, ceq, cgt, cge, lI_add, lI_sub, lI_mul, jadd, jsub, jmul, jneg, jtol, b010, b011, pv_2t, Int.toNat_natCast, Option.some.injEq, exists_eq_left', if_true, if_false, M, h17]
        refine vs_ok 2 ?_
        rw [show ((gRes 206).drop 102).take 2 = [.iconst 1, .ireturn] from rfl]
        simp (disch := omega) only [vs_iconst, vs_ireturn, vs_nil, gv_0, gv_1, gv_2, gv_3, pv_0, pv_1, va_rf_s, Nat.reduceDiv, Nat.reduceMod, Nat.reduceAdd, Nat.reduceMul, Int.reduceToNat, true_and, and_true, and_self, cP_eq, cP_ne, cP_lt, cP_ge, cP_gt, cP_le, eL_i, eL_l, eL_r, eL_n, Option.toList_none, Option.toList_some, List.nil_append, List.cons_append, kkI, llI, nnI, rrI, jjI, kkJ, llJ, nnJ, rrJ, iiJ, zIIs, zJJs, nEF, nET, and_false, false_and, jmin, jmax, catS_n, catS_i, catS_r, catS_l, Nat.reduceLeDiff, j1eq1, n21, jt0, jt1, Bool.false_eq_true, Classical.not_not, true_or, or_true, false_or, or_false, true_imp_iff, false_imp_iff, not_true_eq_false, not_false_eq_true, jif0, jif1, jifb, ltT, ltF, leT, leF, eqT, eqF, jlt, jle, jeq, jlt0, jle0, jeq0, jge0, jgt0, jinB, jnat, clt, cle, ceq, cgt, cge, lI_add, lI_sub, lI_mul, jadd, jsub, jmul, jneg, jtol, b010, b011, pv_2t, Int.toNat_natCast, Option.some.injEq, exists_eq_left', if_true, if_false, show gRc 206 = 2 from rfl]
        rw [← hE] at gd
        exact gd rfl g fl s tm rg n12 xg fg
      have tk0 : ¬ tk = 0 := fun z => c0 (et0.mp z)
      have bad1 : R.1 = 1 → R.2.1 = s.2.2.2 → ∀ (l1 : Option Value), PW (D + 6) 206 13 [some (.ref m), l1, l2, l3, l4] [] g Q := fun e1 e2 l1 => by
        refine vs_ok 2 ?_
        rw [show ((gRes 206).drop 13).take 2 = [.aload 0, .iconst 1] from rfl]
        simp (disch := omega) only [vs_iconst, vs_aload0, vs_nil, gv_0, gv_1, gv_2, gv_3, pv_0, pv_1, va_rf_s, Nat.reduceDiv, Nat.reduceMod, Nat.reduceAdd, Nat.reduceMul, Int.reduceToNat, true_and, and_true, and_self, cP_eq, cP_ne, cP_lt, cP_ge, cP_gt, cP_le, eL_i, eL_l, eL_r, eL_n, Option.toList_none, Option.toList_some, List.nil_append, List.cons_append, kkI, llI, nnI, rrI, jjI, kkJ, llJ, nnJ, rrJ, iiJ, zIIs, zJJs, nEF, nET, and_false, false_and, jmin, jmax, catS_n, catS_i, catS_r, catS_l, Nat.reduceLeDiff, j1eq1, n21, jt0, jt1, Bool.false_eq_true, Classical.not_not, true_or, or_true, false_or, or_false, true_imp_iff, false_imp_iff, not_true_eq_false, not_false_eq_true, jif0, jif1, jifb, ltT, ltF, leT, leF, eqT, eqF, jlt, jle, jeq, jlt0, jle0, jeq0, jge0, jgt0, jinB, jnat, clt, cle, ceq, cgt, cge, lI_add, lI_sub, lI_mul, jadd, jsub, jmul, jneg, jtol, b010, b011, pv_2t, Int.toNat_natCast, Option.some.injEq, exists_eq_left', if_true, if_false]
        refine PW.iv rfl rfl rfl M.1 M.2 (le_b rfl) (le_b rfl) ?_
        refine t_bad xg fun g2 f2 => ⟨rfl, ⟨f2.1.n, rfl⟩, ?_⟩
        refine vs_ok 1 ?_
        rw [show ((gRes 206).drop 16).take 1 = [.ireturn] from rfl]
        simp (disch := omega) only [vs_ireturn, vs_nil, gv_0, gv_1, gv_2, gv_3, pv_0, pv_1, va_rf_s, Nat.reduceDiv, Nat.reduceMod, Nat.reduceAdd, Nat.reduceMul, Int.reduceToNat, true_and, and_true, and_self, cP_eq, cP_ne, cP_lt, cP_ge, cP_gt, cP_le, eL_i, eL_l, eL_r, eL_n, Option.toList_none, Option.toList_some, List.nil_append, List.cons_append, kkI, llI, nnI, rrI, jjI, kkJ, llJ, nnJ, rrJ, iiJ, zIIs, zJJs, nEF, nET, and_false, false_and, jmin, jmax, catS_n, catS_i, catS_r, catS_l, Nat.reduceLeDiff, j1eq1, n21, jt0, jt1, Bool.false_eq_true, Classical.not_not, true_or, or_true, false_or, or_false, true_imp_iff, false_imp_iff, not_true_eq_false, not_false_eq_true, jif0, jif1, jifb, ltT, ltF, leT, leF, eqT, eqF, jlt, jle, jeq, jlt0, jle0, jeq0, jge0, jgt0, jinB, jnat, clt, cle, ceq, cgt, cge, lI_add, lI_sub, lI_mul, jadd, jsub, jmul, jneg, jtol, b010, b011, pv_2t, Int.toNat_natCast, Option.some.injEq, exists_eq_left', if_true, if_false, show gRc 206 = 2 from rfl]
        exact bd (by rw [e1]; decide) g2 (rg.bf.tr f2.1.bf) (by rw [f2.2.1, e1]) (by rw [e2]; exact f2.2.2)
      by_cases c00 : s.2.1 = 0
      · rw [if_pos c00, if_pos (by omega)] at hE
        have hE := Option.some.inj hE
        refine vs_ok 3 ?_
        rw [show ((gRes 206).drop 0).take 3 = [.aload 0, .getfield 12170, .ifCond .eq 102] from rfl]
        simp (disch := omega) only [vs_ifCond, vs_getfield, vs_aload0, vs_nil, gv_0, gv_1, gv_2, gv_3, pv_0, pv_1, va_rf_s, Nat.reduceDiv, Nat.reduceMod, Nat.reduceAdd, Nat.reduceMul, Int.reduceToNat, true_and, and_true, and_self, cP_eq, cP_ne, cP_lt, cP_ge, cP_gt, cP_le, eL_i, eL_l, eL_r, eL_n, Option.toList_none, Option.toList_some, List.nil_append, List.cons_append, kkI, llI, nnI, rrI, jjI, kkJ, llJ, nnJ, rrJ, iiJ, zIIs, zJJs, nEF, nET, and_false, false_and, jmin, jmax, catS_n, catS_i, catS_r, catS_l, Nat.reduceLeDiff, j1eq1, n21, jt0, jt1, Bool.false_eq_true, Classical.not_not, true_or, or_true, false_or, or_false, true_imp_iff, false_imp_iff, not_true_eq_false, not_false_eq_true, jif0, jif1, jifb, ltT, ltF, leT, leF, eqT, eqF, jlt, jle, jeq, jlt0, jle0, jeq0, jge0, jgt0, jinB, jnat, clt, cle, ceq, cgt, cge, lI_add, lI_sub, lI_mul, jadd, jsub, jmul, jneg, jtol, b010, b011, pv_2t, Int.toNat_natCast, Option.some.injEq, exists_eq_left', if_true, if_false, M, h17]
        refine vs_ok 2 ?_
        rw [show ((gRes 206).drop 3).take 2 = [.aload 0, .jsr_w 6580581] from rfl]
        simp (disch := omega) only [vs_jsr_w, vs_aload0, vs_nil, gv_0, gv_1, gv_2, gv_3, pv_0, pv_1, va_rf_s, Nat.reduceDiv, Nat.reduceMod, Nat.reduceAdd, Nat.reduceMul, Int.reduceToNat, true_and, and_true, and_self, cP_eq, cP_ne, cP_lt, cP_ge, cP_gt, cP_le, eL_i, eL_l, eL_r, eL_n, Option.toList_none, Option.toList_some, List.nil_append, List.cons_append, kkI, llI, nnI, rrI, jjI, kkJ, llJ, nnJ, rrJ, iiJ, zIIs, zJJs, nEF, nET, and_false, false_and, jmin, jmax, catS_n, catS_i, catS_r, catS_l, Nat.reduceLeDiff, j1eq1, n21, jt0, jt1, Bool.false_eq_true, Classical.not_not, true_or, or_true, false_or, or_false, true_imp_iff, false_imp_iff, not_true_eq_false, not_false_eq_true, jif0, jif1, jifb, ltT, ltF, leT, leF, eqT, eqF, jlt, jle, jeq, jlt0, jle0, jeq0, jge0, jgt0, jinB, jnat, clt, cle, ceq, cgt, cge, lI_add, lI_sub, lI_mul, jadd, jsub, jmul, jneg, jtol, b010, b011, pv_2t, Int.toNat_natCast, Option.some.injEq, exists_eq_left', if_true, if_false]
        refine PW.iv rfl rfl rfl M.1 M.2 (le_b rfl) (le_b rfl) ?_
        refine t_wrd xg.1 xg.2.1 (w := 3164) (by omega) rfl ⟨rfl, ⟨rfl, rfl⟩, ?_⟩
        rw [if_neg (show ¬ wrP s 3164 from fun z => by have := z.1; omega)]
        refine vs_ok 3 ?_
        rw [show ((gRes 206).drop 6).take 3 = [.istore 1, .iload 1, .ifCond .ne 17] from rfl]
        simp (disch := omega) only [vs_ifCond, vs_iload1, vs_istore1n, vs_istore1i, vs_istore1r, vs_istore1l, vs_nil, gv_0, gv_1, gv_2, gv_3, pv_0, pv_1, va_rf_s, Nat.reduceDiv, Nat.reduceMod, Nat.reduceAdd, Nat.reduceMul, Int.reduceToNat, true_and, and_true, and_self, cP_eq, cP_ne, cP_lt, cP_ge, cP_gt, cP_le, eL_i, eL_l, eL_r, eL_n, Option.toList_none, Option.toList_some, List.nil_append, List.cons_append, kkI, llI, nnI, rrI, jjI, kkJ, llJ, nnJ, rrJ, iiJ, zIIs, zJJs, nEF, nET, and_false, false_and, jmin, jmax, catS_n, catS_i, catS_r, catS_l, Nat.reduceLeDiff, j1eq1, n21, jt0, jt1, Bool.false_eq_true, Classical.not_not, true_or, or_true, false_or, or_false, true_imp_iff, false_imp_iff, not_true_eq_false, not_false_eq_true, jif0, jif1, jifb, ltT, ltF, leT, leF, eqT, eqF, jlt, jle, jeq, jlt0, jle0, jeq0, jge0, jgt0, jinB, jnat, clt, cle, ceq, cgt, cge, lI_add, lI_sub, lI_mul, jadd, jsub, jmul, jneg, jtol, b010, b011, pv_2t, Int.toNat_natCast, Option.some.injEq, exists_eq_left', if_true, if_false]
        refine vs_ok 2 ?_
        rw [show ((gRes 206).drop 9).take 2 = [.aload 0, .jsr_w 7103860] from rfl]
        simp (disch := omega) only [vs_jsr_w, vs_aload0, vs_nil, gv_0, gv_1, gv_2, gv_3, pv_0, pv_1, va_rf_s, Nat.reduceDiv, Nat.reduceMod, Nat.reduceAdd, Nat.reduceMul, Int.reduceToNat, true_and, and_true, and_self, cP_eq, cP_ne, cP_lt, cP_ge, cP_gt, cP_le, eL_i, eL_l, eL_r, eL_n, Option.toList_none, Option.toList_some, List.nil_append, List.cons_append, kkI, llI, nnI, rrI, jjI, kkJ, llJ, nnJ, rrJ, iiJ, zIIs, zJJs, nEF, nET, and_false, false_and, jmin, jmax, catS_n, catS_i, catS_r, catS_l, Nat.reduceLeDiff, j1eq1, n21, jt0, jt1, Bool.false_eq_true, Classical.not_not, true_or, or_true, false_or, or_false, true_imp_iff, false_imp_iff, not_true_eq_false, not_false_eq_true, jif0, jif1, jifb, ltT, ltF, leT, leF, eqT, eqF, jlt, jle, jeq, jlt0, jle0, jeq0, jge0, jgt0, jinB, jnat, clt, cle, ceq, cgt, cge, lI_add, lI_sub, lI_mul, jadd, jsub, jmul, jneg, jtol, b010, b011, pv_2t, Int.toNat_natCast, Option.some.injEq, exists_eq_left', if_true, if_false]
        refine PW.iv rfl rfl rfl M.1 M.2 (le_b rfl) (le_b rfl) ?_
        refine t_wrd xg.1 xg.2.1 (w := 8903) (by omega) rfl ⟨rfl, ⟨rfl, rfl⟩, ?_⟩
        rw [if_neg (show ¬ wrP s 8903 from fun z => by have := z.1; omega)]
        refine vs_ok 1 ?_
        rw [show ((gRes 206).drop 12).take 1 = [.ifCond .ne 17] from rfl]
        simp (disch := omega) only [vs_ifCond, vs_nil, gv_0, gv_1, gv_2, gv_3, pv_0, pv_1, va_rf_s, Nat.reduceDiv, Nat.reduceMod, Nat.reduceAdd, Nat.reduceMul, Int.reduceToNat, true_and, and_true, and_self, cP_eq, cP_ne, cP_lt, cP_ge, cP_gt, cP_le, eL_i, eL_l, eL_r, eL_n, Option.toList_none, Option.toList_some, List.nil_append, List.cons_append, kkI, llI, nnI, rrI, jjI, kkJ, llJ, nnJ, rrJ, iiJ, zIIs, zJJs, nEF, nET, and_false, false_and, jmin, jmax, catS_n, catS_i, catS_r, catS_l, Nat.reduceLeDiff, j1eq1, n21, jt0, jt1, Bool.false_eq_true, Classical.not_not, true_or, or_true, false_or, or_false, true_imp_iff, false_imp_iff, not_true_eq_false, not_false_eq_true, jif0, jif1, jifb, ltT, ltF, leT, leF, eqT, eqF, jlt, jle, jeq, jlt0, jle0, jeq0, jge0, jgt0, jinB, jnat, clt, cle, ceq, cgt, cge, lI_add, lI_sub, lI_mul, jadd, jsub, jmul, jneg, jtol, b010, b011, pv_2t, Int.toNat_natCast, Option.some.injEq, exists_eq_left', if_true, if_false]
        exact bad1 (by rw [← hE]) (by rw [← hE]) _
      rw [if_neg c00] at hE
      have hH : ∃ H, H = hdS B sz Wd n s := ⟨_, rfl⟩
      obtain ⟨H, eH⟩ := hH
      rw [← eH] at hE
      unfold hdS at eH
      -- behind the first WORD
      have p17 : (wrP s 3164 ∨ wrP s 8903) → PW (D + 6) 206 17 [some (.ref m), some (.int (iI (if wrP s 3164 then 1 else 0))), l2, l3, l4] [] g Q := by
        intro hw
        rw [if_neg (by omega)] at eH
        by_cases c12 : 12 ≤ n
        · rw [if_pos c12] at eH
          rw [if_pos (by rw [eH])] at hE
          have hE := Option.some.inj hE
          refine vs_ok 6 ?_
          rw [show ((gRes 206).drop 17).take 6 = [.aload 0, .getfield 12112, .iconst 1, .iaload, .iconst 12, .if_icmp .ne 27] from rfl]
          simp (disch := omega) only [vs_iconst, vs_if_icmp, vs_getfield, vs_iaload, vs_aload0, vs_nil, gv_0, gv_1, gv_2, gv_3, pv_0, pv_1, va_rf_s, Nat.reduceDiv, Nat.reduceMod, Nat.reduceAdd, Nat.reduceMul, Int.reduceToNat, true_and, and_true, and_self, cP_eq, cP_ne, cP_lt, cP_ge, cP_gt, cP_le, eL_i, eL_l, eL_r, eL_n, Option.toList_none, Option.toList_some, List.nil_append, List.cons_append, kkI, llI, nnI, rrI, jjI, kkJ, llJ, nnJ, rrJ, iiJ, zIIs, zJJs, nEF, nET, and_false, false_and, jmin, jmax, catS_n, catS_i, catS_r, catS_l, Nat.reduceLeDiff, j1eq1, n21, jt0, jt1, Bool.false_eq_true, Classical.not_not, true_or, or_true, false_or, or_false, true_imp_iff, false_imp_iff, not_true_eq_false, not_false_eq_true, jif0, jif1, jifb, ltT, ltF, leT, leF, eqT, eqF, jlt, jle, jeq, jlt0, jle0, jeq0, jge0, jgt0, jinB, jnat, clt, cle, ceq, cgt, cge, lI_add, lI_sub, lI_mul, jadd, jsub, jmul, jneg, jtol, b010, b011, pv_2t, Int.toNat_natCast, Option.some.injEq, exists_eq_left', if_true, if_false, M, A7, h71]
          refine vs_ok 2 ?_
          rw [show ((gRes 206).drop 23).take 2 = [.aload 0, .iconst 4] from rfl]
          simp (disch := omega) only [vs_iconst, vs_aload0, vs_nil, gv_0, gv_1, gv_2, gv_3, pv_0, pv_1, va_rf_s, Nat.reduceDiv, Nat.reduceMod, Nat.reduceAdd, Nat.reduceMul, Int.reduceToNat, true_and, and_true, and_self, cP_eq, cP_ne, cP_lt, cP_ge, cP_gt, cP_le, eL_i, eL_l, eL_r, eL_n, Option.toList_none, Option.toList_some, List.nil_append, List.cons_append, kkI, llI, nnI, rrI, jjI, kkJ, llJ, nnJ, rrJ, iiJ, zIIs, zJJs, nEF, nET, and_false, false_and, jmin, jmax, catS_n, catS_i, catS_r, catS_l, Nat.reduceLeDiff, j1eq1, n21, jt0, jt1, Bool.false_eq_true, Classical.not_not, true_or, or_true, false_or, or_false, true_imp_iff, false_imp_iff, not_true_eq_false, not_false_eq_true, jif0, jif1, jifb, ltT, ltF, leT, leF, eqT, eqF, jlt, jle, jeq, jlt0, jle0, jeq0, jge0, jgt0, jinB, jnat, clt, cle, ceq, cgt, cge, lI_add, lI_sub, lI_mul, jadd, jsub, jmul, jneg, jtol, b010, b011, pv_2t, Int.toNat_natCast, Option.some.injEq, exists_eq_left', if_true, if_false]
          refine PW.iv rfl rfl rfl M.1 M.2 (le_b rfl) (le_b rfl) ?_
          refine t_bad xg fun g2 f2 => ⟨rfl, ⟨f2.1.n, rfl⟩, ?_⟩
          refine vs_ok 1 ?_
          rw [show ((gRes 206).drop 26).take 1 = [.ireturn] from rfl]
          simp (disch := omega) only [vs_ireturn, vs_nil, gv_0, gv_1, gv_2, gv_3, pv_0, pv_1, va_rf_s, Nat.reduceDiv, Nat.reduceMod, Nat.reduceAdd, Nat.reduceMul, Int.reduceToNat, true_and, and_true, and_self, cP_eq, cP_ne, cP_lt, cP_ge, cP_gt, cP_le, eL_i, eL_l, eL_r, eL_n, Option.toList_none, Option.toList_some, List.nil_append, List.cons_append, kkI, llI, nnI, rrI, jjI, kkJ, llJ, nnJ, rrJ, iiJ, zIIs, zJJs, nEF, nET, and_false, false_and, jmin, jmax, catS_n, catS_i, catS_r, catS_l, Nat.reduceLeDiff, j1eq1, n21, jt0, jt1, Bool.false_eq_true, Classical.not_not, true_or, or_true, false_or, or_false, true_imp_iff, false_imp_iff, not_true_eq_false, not_false_eq_true, jif0, jif1, jifb, ltT, ltF, leT, leF, eqT, eqF, jlt, jle, jeq, jlt0, jle0, jeq0, jge0, jgt0, jinB, jnat, clt, cle, ceq, cgt, cge, lI_add, lI_sub, lI_mul, jadd, jsub, jmul, jneg, jtol, b010, b011, pv_2t, Int.toNat_natCast, Option.some.injEq, exists_eq_left', if_true, if_false, show gRc 206 = 2 from rfl]
          exact bd (by rw [← hE, eH]; show (4 : Int) ≠ 0; decide) g2 (rg.bf.tr f2.1.bf) (by rw [f2.2.1, ← hE, eH]) (by rw [← hE, eH]; exact f2.2.2)
        rw [if_neg c12] at eH
        refine vs_ok 6 ?_
        rw [show ((gRes 206).drop 17).take 6 = [.aload 0, .getfield 12112, .iconst 1, .iaload, .iconst 12, .if_icmp .ne 27] from rfl]
        simp (disch := omega) only [vs_iconst, vs_if_icmp, vs_getfield, vs_iaload, vs_aload0, vs_nil, gv_0, gv_1, gv_2, gv_3, pv_0, pv_1, va_rf_s, Nat.reduceDiv, Nat.reduceMod, Nat.reduceAdd, Nat.reduceMul, Int.reduceToNat, true_and, and_true, and_self, cP_eq, cP_ne, cP_lt, cP_ge, cP_gt, cP_le, eL_i, eL_l, eL_r, eL_n, Option.toList_none, Option.toList_some, List.nil_append, List.cons_append, kkI, llI, nnI, rrI, jjI, kkJ, llJ, nnJ, rrJ, iiJ, zIIs, zJJs, nEF, nET, and_false, false_and, jmin, jmax, catS_n, catS_i, catS_r, catS_l, Nat.reduceLeDiff, j1eq1, n21, jt0, jt1, Bool.false_eq_true, Classical.not_not, true_or, or_true, false_or, or_false, true_imp_iff, false_imp_iff, not_true_eq_false, not_false_eq_true, jif0, jif1, jifb, ltT, ltF, leT, leF, eqT, eqF, jlt, jle, jeq, jlt0, jle0, jeq0, jge0, jgt0, jinB, jnat, clt, cle, ceq, cgt, cge, lI_add, lI_sub, lI_mul, jadd, jsub, jmul, jneg, jtol, b010, b011, pv_2t, Int.toNat_natCast, Option.some.injEq, exists_eq_left', if_true, if_false, M, A7, h71]
        refine vs_ok 1 ?_
        rw [show ((gRes 206).drop 27).take 1 = [.aload 0] from rfl]
        simp (disch := omega) only [vs_aload0, vs_nil, gv_0, gv_1, gv_2, gv_3, pv_0, pv_1, va_rf_s, Nat.reduceDiv, Nat.reduceMod, Nat.reduceAdd, Nat.reduceMul, Int.reduceToNat, true_and, and_true, and_self, cP_eq, cP_ne, cP_lt, cP_ge, cP_gt, cP_le, eL_i, eL_l, eL_r, eL_n, Option.toList_none, Option.toList_some, List.nil_append, List.cons_append, kkI, llI, nnI, rrI, jjI, kkJ, llJ, nnJ, rrJ, iiJ, zIIs, zJJs, nEF, nET, and_false, false_and, jmin, jmax, catS_n, catS_i, catS_r, catS_l, Nat.reduceLeDiff, j1eq1, n21, jt0, jt1, Bool.false_eq_true, Classical.not_not, true_or, or_true, false_or, or_false, true_imp_iff, false_imp_iff, not_true_eq_false, not_false_eq_true, jif0, jif1, jifb, ltT, ltF, leT, leF, eqT, eqF, jlt, jle, jeq, jlt0, jle0, jeq0, jge0, jgt0, jinB, jnat, clt, cle, ceq, cgt, cge, lI_add, lI_sub, lI_mul, jadd, jsub, jmul, jneg, jtol, b010, b011, pv_2t, Int.toNat_natCast, Option.some.injEq, exists_eq_left', if_true, if_false]
        refine PW.iv rfl rfl rfl M.1 M.2 (le_b rfl) (le_b rfl) ?_
        refine t_nxt xg fun g1 c1 x1 => ⟨rfl, ⟨c1.1.1.2.2.1, rfl⟩, ?_⟩
        have M1 := x1.m.k
        have r1 := rg.tr (c1.ld (n := n)).rd
        refine vs_ok 1 ?_
        rw [show ((gRes 206).drop 29).take 1 = [.aload 0] from rfl]
        simp (disch := omega) only [vs_aload0, vs_nil, gv_0, gv_1, gv_2, gv_3, pv_0, pv_1, va_rf_s, Nat.reduceDiv, Nat.reduceMod, Nat.reduceAdd, Nat.reduceMul, Int.reduceToNat, true_and, and_true, and_self, cP_eq, cP_ne, cP_lt, cP_ge, cP_gt, cP_le, eL_i, eL_l, eL_r, eL_n, Option.toList_none, Option.toList_some, List.nil_append, List.cons_append, kkI, llI, nnI, rrI, jjI, kkJ, llJ, nnJ, rrJ, iiJ, zIIs, zJJs, nEF, nET, and_false, false_and, jmin, jmax, catS_n, catS_i, catS_r, catS_l, Nat.reduceLeDiff, j1eq1, n21, jt0, jt1, Bool.false_eq_true, Classical.not_not, true_or, or_true, false_or, or_false, true_imp_iff, false_imp_iff, not_true_eq_false, not_false_eq_true, jif0, jif1, jifb, ltT, ltF, leT, leF, eqT, eqF, jlt, jle, jeq, jlt0, jle0, jeq0, jge0, jgt0, jinB, jnat, clt, cle, ceq, cgt, cge, lI_add, lI_sub, lI_mul, jadd, jsub, jmul, jneg, jtol, b010, b011, pv_2t, Int.toNat_natCast, Option.some.injEq, exists_eq_left', if_true, if_false]
        refine PW.iv rfl rfl rfl M1.1 M1.2 (le_b rfl) (le_b rfl) ?_
        refine t_nam x1.1 x1.2.1 ⟨rfl, ⟨rfl, rfl⟩, ?_⟩
        by_cases cn : (nx B sz s).2.1 ≠ 2 ∨ owW (nx B sz s).2.2.1
        · rw [if_pos cn] at eH
          rw [if_pos (by rw [eH])] at hE
          have hE := Option.some.inj hE
          rw [if_neg (show ¬ ((nx B sz s).2.1 = 2 ∧ ¬ owW (nx B sz s).2.2.1) from fun z => by
            rcases cn with y | y
            · exact y z.1
            · exact z.2 y)]
          refine vs_ok 1 ?_
          rw [show ((gRes 206).drop 31).take 1 = [.ifCond .ne 36] from rfl]
          simp (disch := omega) only [vs_ifCond, vs_nil, gv_0, gv_1, gv_2, gv_3, pv_0, pv_1, va_rf_s, Nat.reduceDiv, Nat.reduceMod, Nat.reduceAdd, Nat.reduceMul, Int.reduceToNat, true_and, and_true, and_self, cP_eq, cP_ne, cP_lt, cP_ge, cP_gt, cP_le, eL_i, eL_l, eL_r, eL_n, Option.toList_none, Option.toList_some, List.nil_append, List.cons_append, kkI, llI, nnI, rrI, jjI, kkJ, llJ, nnJ, rrJ, iiJ, zIIs, zJJs, nEF, nET, and_false, false_and, jmin, jmax, catS_n, catS_i, catS_r, catS_l, Nat.reduceLeDiff, j1eq1, n21, jt0, jt1, Bool.false_eq_true, Classical.not_not, true_or, or_true, false_or, or_false, true_imp_iff, false_imp_iff, not_true_eq_false, not_false_eq_true, jif0, jif1, jifb, ltT, ltF, leT, leF, eqT, eqF, jlt, jle, jeq, jlt0, jle0, jeq0, jge0, jgt0, jinB, jnat, clt, cle, ceq, cgt, cge, lI_add, lI_sub, lI_mul, jadd, jsub, jmul, jneg, jtol, b010, b011, pv_2t, Int.toNat_natCast, Option.some.injEq, exists_eq_left', if_true, if_false]
          refine vs_ok 2 ?_
          rw [show ((gRes 206).drop 32).take 2 = [.aload 0, .iconst 1] from rfl]
          simp (disch := omega) only [vs_iconst, vs_aload0, vs_nil, gv_0, gv_1, gv_2, gv_3, pv_0, pv_1, va_rf_s, Nat.reduceDiv, Nat.reduceMod, Nat.reduceAdd, Nat.reduceMul, Int.reduceToNat, true_and, and_true, and_self, cP_eq, cP_ne, cP_lt, cP_ge, cP_gt, cP_le, eL_i, eL_l, eL_r, eL_n, Option.toList_none, Option.toList_some, List.nil_append, List.cons_append, kkI, llI, nnI, rrI, jjI, kkJ, llJ, nnJ, rrJ, iiJ, zIIs, zJJs, nEF, nET, and_false, false_and, jmin, jmax, catS_n, catS_i, catS_r, catS_l, Nat.reduceLeDiff, j1eq1, n21, jt0, jt1, Bool.false_eq_true, Classical.not_not, true_or, or_true, false_or, or_false, true_imp_iff, false_imp_iff, not_true_eq_false, not_false_eq_true, jif0, jif1, jifb, ltT, ltF, leT, leF, eqT, eqF, jlt, jle, jeq, jlt0, jle0, jeq0, jge0, jgt0, jinB, jnat, clt, cle, ceq, cgt, cge, lI_add, lI_sub, lI_mul, jadd, jsub, jmul, jneg, jtol, b010, b011, pv_2t, Int.toNat_natCast, Option.some.injEq, exists_eq_left', if_true, if_false]
          refine PW.iv rfl rfl rfl M1.1 M1.2 (le_b rfl) (le_b rfl) ?_
          refine t_bad x1 fun g2 f2 => ⟨rfl, ⟨f2.1.n, rfl⟩, ?_⟩
          refine vs_ok 1 ?_
          rw [show ((gRes 206).drop 35).take 1 = [.ireturn] from rfl]
          simp (disch := omega) only [vs_ireturn, vs_nil, gv_0, gv_1, gv_2, gv_3, pv_0, pv_1, va_rf_s, Nat.reduceDiv, Nat.reduceMod, Nat.reduceAdd, Nat.reduceMul, Int.reduceToNat, true_and, and_true, and_self, cP_eq, cP_ne, cP_lt, cP_ge, cP_gt, cP_le, eL_i, eL_l, eL_r, eL_n, Option.toList_none, Option.toList_some, List.nil_append, List.cons_append, kkI, llI, nnI, rrI, jjI, kkJ, llJ, nnJ, rrJ, iiJ, zIIs, zJJs, nEF, nET, and_false, false_and, jmin, jmax, catS_n, catS_i, catS_r, catS_l, Nat.reduceLeDiff, j1eq1, n21, jt0, jt1, Bool.false_eq_true, Classical.not_not, true_or, or_true, false_or, or_false, true_imp_iff, false_imp_iff, not_true_eq_false, not_false_eq_true, jif0, jif1, jifb, ltT, ltF, leT, leF, eqT, eqF, jlt, jle, jeq, jlt0, jle0, jeq0, jge0, jgt0, jinB, jnat, clt, cle, ceq, cgt, cge, lI_add, lI_sub, lI_mul, jadd, jsub, jmul, jneg, jtol, b010, b011, pv_2t, Int.toNat_natCast, Option.some.injEq, exists_eq_left', if_true, if_false, show gRc 206 = 2 from rfl]
          exact bd (by rw [← hE, eH]; show (1 : Int) ≠ 0; decide) g2 (r1.bf.tr f2.1.bf) (by rw [f2.2.1, ← hE, eH]) (by rw [← hE, eH]; exact f2.2.2)
        rw [if_neg cn] at eH
        have k2 : (nx B sz s).2.1 = 2 := Classical.byContradiction fun z => cn (Or.inl z)
        have k3 : ¬ owW (nx B sz s).2.2.1 := fun z => cn (Or.inr z)
        rw [if_pos (show (nx B sz s).2.1 = 2 ∧ ¬ owW (nx B sz s).2.2.1 from ⟨k2, k3⟩)]
        refine vs_ok 1 ?_
        rw [show ((gRes 206).drop 31).take 1 = [.ifCond .ne 36] from rfl]
        simp (disch := omega) only [vs_ifCond, vs_nil, gv_0, gv_1, gv_2, gv_3, pv_0, pv_1, va_rf_s, Nat.reduceDiv, Nat.reduceMod, Nat.reduceAdd, Nat.reduceMul, Int.reduceToNat, true_and, and_true, and_self, cP_eq, cP_ne, cP_lt, cP_ge, cP_gt, cP_le, eL_i, eL_l, eL_r, eL_n, Option.toList_none, Option.toList_some, List.nil_append, List.cons_append, kkI, llI, nnI, rrI, jjI, kkJ, llJ, nnJ, rrJ, iiJ, zIIs, zJJs, nEF, nET, and_false, false_and, jmin, jmax, catS_n, catS_i, catS_r, catS_l, Nat.reduceLeDiff, j1eq1, n21, jt0, jt1, Bool.false_eq_true, Classical.not_not, true_or, or_true, false_or, or_false, true_imp_iff, false_imp_iff, not_true_eq_false, not_false_eq_true, jif0, jif1, jifb, ltT, ltF, leT, leF, eqT, eqF, jlt, jle, jeq, jlt0, jle0, jeq0, jge0, jgt0, jinB, jnat, clt, cle, ceq, cgt, cge, lI_add, lI_sub, lI_mul, jadd, jsub, jmul, jneg, jtol, b010, b011, pv_2t, Int.toNat_natCast, Option.some.injEq, exists_eq_left', if_true, if_false]
        refine vs_ok 1 ?_
        rw [show ((gRes 206).drop 36).take 1 = [.aload 0] from rfl]
        simp (disch := omega) only [vs_aload0, vs_nil, gv_0, gv_1, gv_2, gv_3, pv_0, pv_1, va_rf_s, Nat.reduceDiv, Nat.reduceMod, Nat.reduceAdd, Nat.reduceMul, Int.reduceToNat, true_and, and_true, and_self, cP_eq, cP_ne, cP_lt, cP_ge, cP_gt, cP_le, eL_i, eL_l, eL_r, eL_n, Option.toList_none, Option.toList_some, List.nil_append, List.cons_append, kkI, llI, nnI, rrI, jjI, kkJ, llJ, nnJ, rrJ, iiJ, zIIs, zJJs, nEF, nET, and_false, false_and, jmin, jmax, catS_n, catS_i, catS_r, catS_l, Nat.reduceLeDiff, j1eq1, n21, jt0, jt1, Bool.false_eq_true, Classical.not_not, true_or, or_true, false_or, or_false, true_imp_iff, false_imp_iff, not_true_eq_false, not_false_eq_true, jif0, jif1, jifb, ltT, ltF, leT, leF, eqT, eqF, jlt, jle, jeq, jlt0, jle0, jeq0, jge0, jgt0, jinB, jnat, clt, cle, ceq, cgt, cge, lI_add, lI_sub, lI_mul, jadd, jsub, jmul, jneg, jtol, b010, b011, pv_2t, Int.toNat_natCast, Option.some.injEq, exists_eq_left', if_true, if_false]
        refine PW.iv rfl rfl rfl M1.1 M1.2 (le_b rfl) (le_b rfl) ?_
        refine t_nmd x1.1 x1.2.1 x1.2.2.1 k2 ⟨rfl, ⟨rfl, rfl⟩, ?_⟩
        by_cases cf : fndW Wd (nx B sz s).2.2.1 n 0 ≠ -1
        · rw [if_pos cf] at eH
          rw [if_pos (by rw [eH])] at hE
          have hE := Option.some.inj hE
          obtain ⟨f1, f2⟩ := fnd_lt cf
          rw [if_neg (show ¬ fndW Wd (nx B sz s).2.2.1 n 0 = -1 from cf)]
          generalize fndW Wd (nx B sz s).2.2.1 n 0 = fw at *
          refine vs_ok 1 ?_
          rw [show ((gRes 206).drop 38).take 1 = [.ifCond .lt 43] from rfl]
          simp (disch := omega) only [vs_ifCond, vs_nil, gv_0, gv_1, gv_2, gv_3, pv_0, pv_1, va_rf_s, Nat.reduceDiv, Nat.reduceMod, Nat.reduceAdd, Nat.reduceMul, Int.reduceToNat, true_and, and_true, and_self, cP_eq, cP_ne, cP_lt, cP_ge, cP_gt, cP_le, eL_i, eL_l, eL_r, eL_n, Option.toList_none, Option.toList_some, List.nil_append, List.cons_append, kkI, llI, nnI, rrI, jjI, kkJ, llJ, nnJ, rrJ, iiJ, zIIs, zJJs, nEF, nET, and_false, false_and, jmin, jmax, catS_n, catS_i, catS_r, catS_l, Nat.reduceLeDiff, j1eq1, n21, jt0, jt1, Bool.false_eq_true, Classical.not_not, true_or, or_true, false_or, or_false, true_imp_iff, false_imp_iff, not_true_eq_false, not_false_eq_true, jif0, jif1, jifb, ltT, ltF, leT, leF, eqT, eqF, jlt, jle, jeq, jlt0, jle0, jeq0, jge0, jgt0, jinB, jnat, clt, cle, ceq, cgt, cge, lI_add, lI_sub, lI_mul, jadd, jsub, jmul, jneg, jtol, b010, b011, pv_2t, Int.toNat_natCast, Option.some.injEq, exists_eq_left', if_true, if_false]
          refine vs_ok 2 ?_
          rw [show ((gRes 206).drop 39).take 2 = [.aload 0, .iconst 3] from rfl]
          simp (disch := omega) only [vs_iconst, vs_aload0, vs_nil, gv_0, gv_1, gv_2, gv_3, pv_0, pv_1, va_rf_s, Nat.reduceDiv, Nat.reduceMod, Nat.reduceAdd, Nat.reduceMul, Int.reduceToNat, true_and, and_true, and_self, cP_eq, cP_ne, cP_lt, cP_ge, cP_gt, cP_le, eL_i, eL_l, eL_r, eL_n, Option.toList_none, Option.toList_some, List.nil_append, List.cons_append, kkI, llI, nnI, rrI, jjI, kkJ, llJ, nnJ, rrJ, iiJ, zIIs, zJJs, nEF, nET, and_false, false_and, jmin, jmax, catS_n, catS_i, catS_r, catS_l, Nat.reduceLeDiff, j1eq1, n21, jt0, jt1, Bool.false_eq_true, Classical.not_not, true_or, or_true, false_or, or_false, true_imp_iff, false_imp_iff, not_true_eq_false, not_false_eq_true, jif0, jif1, jifb, ltT, ltF, leT, leF, eqT, eqF, jlt, jle, jeq, jlt0, jle0, jeq0, jge0, jgt0, jinB, jnat, clt, cle, ceq, cgt, cge, lI_add, lI_sub, lI_mul, jadd, jsub, jmul, jneg, jtol, b010, b011, pv_2t, Int.toNat_natCast, Option.some.injEq, exists_eq_left', if_true, if_false]
          refine PW.iv rfl rfl rfl M1.1 M1.2 (le_b rfl) (le_b rfl) ?_
          refine t_bad x1 fun g2 f2 => ⟨rfl, ⟨f2.1.n, rfl⟩, ?_⟩
          refine vs_ok 1 ?_
          rw [show ((gRes 206).drop 42).take 1 = [.ireturn] from rfl]
          simp (disch := omega) only [vs_ireturn, vs_nil, gv_0, gv_1, gv_2, gv_3, pv_0, pv_1, va_rf_s, Nat.reduceDiv, Nat.reduceMod, Nat.reduceAdd, Nat.reduceMul, Int.reduceToNat, true_and, and_true, and_self, cP_eq, cP_ne, cP_lt, cP_ge, cP_gt, cP_le, eL_i, eL_l, eL_r, eL_n, Option.toList_none, Option.toList_some, List.nil_append, List.cons_append, kkI, llI, nnI, rrI, jjI, kkJ, llJ, nnJ, rrJ, iiJ, zIIs, zJJs, nEF, nET, and_false, false_and, jmin, jmax, catS_n, catS_i, catS_r, catS_l, Nat.reduceLeDiff, j1eq1, n21, jt0, jt1, Bool.false_eq_true, Classical.not_not, true_or, or_true, false_or, or_false, true_imp_iff, false_imp_iff, not_true_eq_false, not_false_eq_true, jif0, jif1, jifb, ltT, ltF, leT, leF, eqT, eqF, jlt, jle, jeq, jlt0, jle0, jeq0, jge0, jgt0, jinB, jnat, clt, cle, ceq, cgt, cge, lI_add, lI_sub, lI_mul, jadd, jsub, jmul, jneg, jtol, b010, b011, pv_2t, Int.toNat_natCast, Option.some.injEq, exists_eq_left', if_true, if_false, show gRc 206 = 2 from rfl]
          exact bd (by rw [← hE, eH]; show (3 : Int) ≠ 0; decide) g2 (r1.bf.tr f2.1.bf) (by rw [f2.2.1, ← hE, eH]) (by rw [← hE, eH]; exact f2.2.2)
        rw [if_neg cf] at eH
        rw [if_pos (Classical.byContradiction fun z => cf z)]
        have n1 : zI g1 (m + 7) 1 = iI n := x1.2.2.1.1
        have B7 := x1.m.nameMany
        have e12 : (12 : Int) + (n : Int) = ((12 + n : Nat) : Int) := by omega
        have hw8 : zJ g1 m 23 = lI (wd8 (nx B sz s).2.2.1) ∧ (nx B sz s).2.2.1 < 387420489 := by
          obtain ⟨⟨p, tk, at', nu, wo, xg', y17, ht, y18, y20, y23, hb, T⟩, -⟩ := x1
          have T2 := T.2.2
          rcases T2 with z | z | z | z | z | z
          · omega
          · omega
          · omega
          · exact ⟨by rw [y23, z.2.2.2], z.2.2.1⟩
          · omega
          · omega
        have w0 := x1.2.1.2.2.1.1
        refine vs_ok 1 ?_
        rw [show ((gRes 206).drop 38).take 1 = [.ifCond .lt 43] from rfl]
        simp (disch := omega) only [vs_ifCond, vs_nil, gv_0, gv_1, gv_2, gv_3, pv_0, pv_1, va_rf_s, Nat.reduceDiv, Nat.reduceMod, Nat.reduceAdd, Nat.reduceMul, Int.reduceToNat, true_and, and_true, and_self, cP_eq, cP_ne, cP_lt, cP_ge, cP_gt, cP_le, eL_i, eL_l, eL_r, eL_n, Option.toList_none, Option.toList_some, List.nil_append, List.cons_append, kkI, llI, nnI, rrI, jjI, kkJ, llJ, nnJ, rrJ, iiJ, zIIs, zJJs, nEF, nET, and_false, false_and, jmin, jmax, catS_n, catS_i, catS_r, catS_l, Nat.reduceLeDiff, j1eq1, n21, jt0, jt1, Bool.false_eq_true, Classical.not_not, true_or, or_true, false_or, or_false, true_imp_iff, false_imp_iff, not_true_eq_false, not_false_eq_true, jif0, jif1, jifb, ltT, ltF, leT, leF, eqT, eqF, jlt, jle, jeq, jlt0, jle0, jeq0, jge0, jgt0, jinB, jnat, clt, cle, ceq, cgt, cge, lI_add, lI_sub, lI_mul, jadd, jsub, jmul, jneg, jtol, b010, b011, pv_2t, Int.toNat_natCast, Option.some.injEq, exists_eq_left', if_true, if_false]
        refine vs_ok 11 ?_
        rw [show ((gRes 206).drop 43).take 11 = [.iconst 12, .aload 0, .getfield 12112, .iconst 1, .iaload, .iadd, .istore 2, .aload 0, .getfield 12231, .lstore 3, .aload 0] from rfl]
        simp (disch := omega) only [vs_iadd, vs_iconst, vs_getfield, vs_iaload, vs_aload0, vs_istore2n, vs_istore2i, vs_istore2r, vs_istore2l, vs_lstore3n, vs_lstore3i, vs_lstore3r, vs_lstore3l, vs_nil, gv_0, gv_1, gv_2, gv_3, pv_0, pv_1, va_rf_s, Nat.reduceDiv, Nat.reduceMod, Nat.reduceAdd, Nat.reduceMul, Int.reduceToNat, true_and, and_true, and_self, cP_eq, cP_ne, cP_lt, cP_ge, cP_gt, cP_le, eL_i, eL_l, eL_r, eL_n, Option.toList_none, Option.toList_some, List.nil_append, List.cons_append, kkI, llI, nnI, rrI, jjI, kkJ, llJ, nnJ, rrJ, iiJ, zIIs, zJJs, nEF, nET, and_false, false_and, jmin, jmax, catS_n, catS_i, catS_r, catS_l, Nat.reduceLeDiff, j1eq1, n21, jt0, jt1, Bool.false_eq_true, Classical.not_not, true_or, or_true, false_or, or_false, true_imp_iff, false_imp_iff, not_true_eq_false, not_false_eq_true, jif0, jif1, jifb, ltT, ltF, leT, leF, eqT, eqF, jlt, jle, jeq, jlt0, jle0, jeq0, jge0, jgt0, jinB, jnat, clt, cle, ceq, cgt, cge, lI_add, lI_sub, lI_mul, jadd, jsub, jmul, jneg, jtol, b010, b011, pv_2t, Int.toNat_natCast, Option.some.injEq, exists_eq_left', if_true, if_false, M1, B7, n1, hw8.1, e12]
        refine PW.iv rfl rfl rfl M1.1 M1.2 (le_b rfl) (le_b rfl) ?_
        refine t_nxt x1 fun g2 c2 x2 => ⟨rfl, ⟨c2.1.1.2.2.1, rfl⟩, ?_⟩
        have M2 := x2.m.k
        refine vs_ok 3 ?_
        rw [show ((gRes 206).drop 55).take 3 = [.aload 0, .iconst 0, .putfield 12073] from rfl]
        simp (disch := omega) only [vs_iconst, vs_putfield, vs_aload0, vs_nil, gv_0, gv_1, gv_2, gv_3, pv_0, pv_1, va_rf_s, Nat.reduceDiv, Nat.reduceMod, Nat.reduceAdd, Nat.reduceMul, Int.reduceToNat, true_and, and_true, and_self, cP_eq, cP_ne, cP_lt, cP_ge, cP_gt, cP_le, eL_i, eL_l, eL_r, eL_n, Option.toList_none, Option.toList_some, List.nil_append, List.cons_append, kkI, llI, nnI, rrI, jjI, kkJ, llJ, nnJ, rrJ, iiJ, zIIs, zJJs, nEF, nET, and_false, false_and, jmin, jmax, catS_n, catS_i, catS_r, catS_l, Nat.reduceLeDiff, j1eq1, n21, jt0, jt1, Bool.false_eq_true, Classical.not_not, true_or, or_true, false_or, or_false, true_imp_iff, false_imp_iff, not_true_eq_false, not_false_eq_true, jif0, jif1, jifb, ltT, ltF, leT, leF, eqT, eqF, jlt, jle, jeq, jlt0, jle0, jeq0, jge0, jgt0, jinB, jnat, clt, cle, ceq, cgt, cge, lI_add, lI_sub, lI_mul, jadd, jsub, jmul, jneg, jtol, b010, b011, pv_2t, Int.toNat_natCast, Option.some.injEq, exists_eq_left', if_true, if_false, M2, pv_30]
        have l3' : ldC n g (zsI g2 m 7 (iI 0)) m := (c1.ld.tr c2.ld).tr ⟨fi_I (by omega), fun i _ _ _ _ _ h6 => by rw [zI_s, if_neg (by omega)], fun _ _ => ⟨fun _ _ => rfl, rfl⟩, fun j _ => by rw [zI_s, if_neg (by omega)], fun j _ => by rw [zI_s, if_neg (by omega)]⟩
        have x3 : suG (zsI g2 m 7 (iI 0)) m sz n B Wd V (nx B sz (nx B sz s)) false := xg.ld l3' (x2.1.of (x2.m.fi (fi_I (S := fun q => q = m) rfl)) (fun i hi => by rw [zI_s, if_neg (by omega)]) (by funext i; rw [zI_s, if_neg (by omega)]) rfl) x2.2.1 (by rw [zI_s, if_pos ⟨rfl, rfl⟩]; rfl)
        generalize zsI g2 m 7 (iI 0) = g3 at *
        have M3 := x3.m.k
        have H4 : H.2.2.2.1 = nx B sz (nx B sz s) := by rw [eH]
        have H5 : H.2.2.2.2.1 = decide (wrP s 3164) := by rw [eH]
        have H6 : H.2.2.2.2.2 = (nx B sz s).2.2.1 := by rw [eH]
        rw [if_neg (show ¬ H.1 = false by rw [eH]; exact fun y => (by cases y)), H4, H5, H6] at hE
        -- a line's end
        have p71 : ∀ (g4 : Hp) (s4 : R4) (tm : Bool) (c : Nat) (v : Option RowVal) (f : Nat → Int), ldC n g g4 m → suG g4 m sz n B Wd V s4 tm → zI g4 (m + 6) (12 + n) = iI (c : Nat) → c ≤ 12 → (∀ u, v = some u → 0 < c → (∀ i, i < c → zI g4 (m + 5) (12 * (12 + n) + i) = iI (f i) ∧ 0 ≤ f i ∧ f i ≤ 60) ∧ ∀ x, u.2.2.2 x = fcN f c x) → slO g4 m (12 + n) v tm → tm = v.isNone →
            (¬ sgP s4 59 → R.1 = 1 ∧ R.2.1 = s4.2.2.2) → (sgP s4 59 → v = none → R.1 = 5 ∧ R.2.1 = s4.2.2.2) → (sgP s4 59 → ∀ u, v = some u → tlS B sz k (n + 1) (upI F n c) (upI Wd n (nx B sz s).2.2.1) (upV V n u) (nx B sz s4) = some R) →
            PW (D + 6) 206 71 [some (.ref m), some (.int (iI (if wrP s 3164 then 1 else 0))), some (.int (iI ((12 + n : Nat) : Int))), some (.long (lI (wd8 (nx B sz s).2.2.1))), none] [] g4 Q := by
          intro g4 s4 tm c v f l4 x4 h6 hc hf v4 et e1 e5 ek
          have M4 := x4.m.k
          have g7 := x4.2.2.2
          refine vs_ok 2 ?_
          rw [show ((gRes 206).drop 71).take 2 = [.aload 0, .iconst 59] from rfl]
          simp (disch := omega) only [vs_iconst, vs_aload0, vs_nil, gv_0, gv_1, gv_2, gv_3, pv_0, pv_1, va_rf_s, Nat.reduceDiv, Nat.reduceMod, Nat.reduceAdd, Nat.reduceMul, Int.reduceToNat, true_and, and_true, and_self, cP_eq, cP_ne, cP_lt, cP_ge, cP_gt, cP_le, eL_i, eL_l, eL_r, eL_n, Option.toList_none, Option.toList_some, List.nil_append, List.cons_append, kkI, llI, nnI, rrI, jjI, kkJ, llJ, nnJ, rrJ, iiJ, zIIs, zJJs, nEF, nET, and_false, false_and, jmin, jmax, catS_n, catS_i, catS_r, catS_l, Nat.reduceLeDiff, j1eq1, n21, jt0, jt1, Bool.false_eq_true, Classical.not_not, true_or, or_true, false_or, or_false, true_imp_iff, false_imp_iff, not_true_eq_false, not_false_eq_true, jif0, jif1, jifb, ltT, ltF, leT, leF, eqT, eqF, jlt, jle, jeq, jlt0, jle0, jeq0, jge0, jgt0, jinB, jnat, clt, cle, ceq, cgt, cge, lI_add, lI_sub, lI_mul, jadd, jsub, jmul, jneg, jtol, b010, b011, pv_2t, Int.toNat_natCast, Option.some.injEq, exists_eq_left', if_true, if_false]
          refine PW.iv rfl rfl rfl M4.1 M4.2 (le_b rfl) (le_b rfl) ?_
          refine t_sgn x4.1 (by omega) ⟨rfl, ⟨rfl, rfl⟩, ?_⟩
          by_cases c59 : sgP s4 59
          · rw [if_pos c59]
            refine vs_ok 1 ?_
            rw [show ((gRes 206).drop 74).take 1 = [.ifCond .ne 79] from rfl]
            simp (disch := omega) only [vs_ifCond, vs_nil, gv_0, gv_1, gv_2, gv_3, pv_0, pv_1, va_rf_s, Nat.reduceDiv, Nat.reduceMod, Nat.reduceAdd, Nat.reduceMul, Int.reduceToNat, true_and, and_true, and_self, cP_eq, cP_ne, cP_lt, cP_ge, cP_gt, cP_le, eL_i, eL_l, eL_r, eL_n, Option.toList_none, Option.toList_some, List.nil_append, List.cons_append, kkI, llI, nnI, rrI, jjI, kkJ, llJ, nnJ, rrJ, iiJ, zIIs, zJJs, nEF, nET, and_false, false_and, jmin, jmax, catS_n, catS_i, catS_r, catS_l, Nat.reduceLeDiff, j1eq1, n21, jt0, jt1, Bool.false_eq_true, Classical.not_not, true_or, or_true, false_or, or_false, true_imp_iff, false_imp_iff, not_true_eq_false, not_false_eq_true, jif0, jif1, jifb, ltT, ltF, leT, leF, eqT, eqF, jlt, jle, jeq, jlt0, jle0, jeq0, jge0, jgt0, jinB, jnat, clt, cle, ceq, cgt, cge, lI_add, lI_sub, lI_mul, jadd, jsub, jmul, jneg, jtol, b010, b011, pv_2t, Int.toNat_natCast, Option.some.injEq, exists_eq_left', if_true, if_false]
            cases hv : v with
            | none =>
              rw [hv] at et
              rw [et] at g7
              have g7 : zI g4 m 7 = iI 1 := g7
              obtain ⟨r1', r2'⟩ := e5 c59 hv
              refine vs_ok 3 ?_
              rw [show ((gRes 206).drop 79).take 3 = [.aload 0, .getfield 12073, .ifCond .eq 86] from rfl]
              simp (disch := omega) only [vs_ifCond, vs_getfield, vs_aload0, vs_nil, gv_0, gv_1, gv_2, gv_3, pv_0, pv_1, va_rf_s, Nat.reduceDiv, Nat.reduceMod, Nat.reduceAdd, Nat.reduceMul, Int.reduceToNat, true_and, and_true, and_self, cP_eq, cP_ne, cP_lt, cP_ge, cP_gt, cP_le, eL_i, eL_l, eL_r, eL_n, Option.toList_none, Option.toList_some, List.nil_append, List.cons_append, kkI, llI, nnI, rrI, jjI, kkJ, llJ, nnJ, rrJ, iiJ, zIIs, zJJs, nEF, nET, and_false, false_and, jmin, jmax, catS_n, catS_i, catS_r, catS_l, Nat.reduceLeDiff, j1eq1, n21, jt0, jt1, Bool.false_eq_true, Classical.not_not, true_or, or_true, false_or, or_false, true_imp_iff, false_imp_iff, not_true_eq_false, not_false_eq_true, jif0, jif1, jifb, ltT, ltF, leT, leF, eqT, eqF, jlt, jle, jeq, jlt0, jle0, jeq0, jge0, jgt0, jinB, jnat, clt, cle, ceq, cgt, cge, lI_add, lI_sub, lI_mul, jadd, jsub, jmul, jneg, jtol, b010, b011, pv_2t, Int.toNat_natCast, Option.some.injEq, exists_eq_left', if_true, if_false, M4, g7]
              refine vs_ok 2 ?_
              rw [show ((gRes 206).drop 82).take 2 = [.aload 0, .iconst 5] from rfl]
              simp (disch := omega) only [vs_iconst, vs_aload0, vs_nil, gv_0, gv_1, gv_2, gv_3, pv_0, pv_1, va_rf_s, Nat.reduceDiv, Nat.reduceMod, Nat.reduceAdd, Nat.reduceMul, Int.reduceToNat, true_and, and_true, and_self, cP_eq, cP_ne, cP_lt, cP_ge, cP_gt, cP_le, eL_i, eL_l, eL_r, eL_n, Option.toList_none, Option.toList_some, List.nil_append, List.cons_append, kkI, llI, nnI, rrI, jjI, kkJ, llJ, nnJ, rrJ, iiJ, zIIs, zJJs, nEF, nET, and_false, false_and, jmin, jmax, catS_n, catS_i, catS_r, catS_l, Nat.reduceLeDiff, j1eq1, n21, jt0, jt1, Bool.false_eq_true, Classical.not_not, true_or, or_true, false_or, or_false, true_imp_iff, false_imp_iff, not_true_eq_false, not_false_eq_true, jif0, jif1, jifb, ltT, ltF, leT, leF, eqT, eqF, jlt, jle, jeq, jlt0, jle0, jeq0, jge0, jgt0, jinB, jnat, clt, cle, ceq, cgt, cge, lI_add, lI_sub, lI_mul, jadd, jsub, jmul, jneg, jtol, b010, b011, pv_2t, Int.toNat_natCast, Option.some.injEq, exists_eq_left', if_true, if_false]
              refine PW.iv rfl rfl rfl M4.1 M4.2 (le_b rfl) (le_b rfl) ?_
              refine t_bad x4 fun g5 f5 => ⟨rfl, ⟨f5.1.n, rfl⟩, ?_⟩
              refine vs_ok 1 ?_
              rw [show ((gRes 206).drop 85).take 1 = [.ireturn] from rfl]
              simp (disch := omega) only [vs_ireturn, vs_nil, gv_0, gv_1, gv_2, gv_3, pv_0, pv_1, va_rf_s, Nat.reduceDiv, Nat.reduceMod, Nat.reduceAdd, Nat.reduceMul, Int.reduceToNat, true_and, and_true, and_self, cP_eq, cP_ne, cP_lt, cP_ge, cP_gt, cP_le, eL_i, eL_l, eL_r, eL_n, Option.toList_none, Option.toList_some, List.nil_append, List.cons_append, kkI, llI, nnI, rrI, jjI, kkJ, llJ, nnJ, rrJ, iiJ, zIIs, zJJs, nEF, nET, and_false, false_and, jmin, jmax, catS_n, catS_i, catS_r, catS_l, Nat.reduceLeDiff, j1eq1, n21, jt0, jt1, Bool.false_eq_true, Classical.not_not, true_or, or_true, false_or, or_false, true_imp_iff, false_imp_iff, not_true_eq_false, not_false_eq_true, jif0, jif1, jifb, ltT, ltF, leT, leF, eqT, eqF, jlt, jle, jeq, jlt0, jle0, jeq0, jge0, jgt0, jinB, jnat, clt, cle, ceq, cgt, cge, lI_add, lI_sub, lI_mul, jadd, jsub, jmul, jneg, jtol, b010, b011, pv_2t, Int.toNat_natCast, Option.some.injEq, exists_eq_left', if_true, if_false, show gRc 206 = 2 from rfl]
              exact bd (by rw [r1']; decide) g5 (rg.bf.tr (l4.bf.tr f5.1.bf)) (by rw [f5.2.1, r1']) (by rw [r2']; exact f5.2.2)
            | some u =>
              rw [hv] at et
              rw [et] at g7 x4
              have g7 : zI g4 m 7 = iI 0 := g7
              obtain ⟨u', eu, su, gu⟩ := v4 et
              rw [hv] at eu
              have eu := Option.some.inj eu
              rw [← eu] at su gu
              refine vs_ok 3 ?_
              rw [show ((gRes 206).drop 79).take 3 = [.aload 0, .getfield 12073, .ifCond .eq 86] from rfl]
              simp (disch := omega) only [vs_ifCond, vs_getfield, vs_aload0, vs_nil, gv_0, gv_1, gv_2, gv_3, pv_0, pv_1, va_rf_s, Nat.reduceDiv, Nat.reduceMod, Nat.reduceAdd, Nat.reduceMul, Int.reduceToNat, true_and, and_true, and_self, cP_eq, cP_ne, cP_lt, cP_ge, cP_gt, cP_le, eL_i, eL_l, eL_r, eL_n, Option.toList_none, Option.toList_some, List.nil_append, List.cons_append, kkI, llI, nnI, rrI, jjI, kkJ, llJ, nnJ, rrJ, iiJ, zIIs, zJJs, nEF, nET, and_false, false_and, jmin, jmax, catS_n, catS_i, catS_r, catS_l, Nat.reduceLeDiff, j1eq1, n21, jt0, jt1, Bool.false_eq_true, Classical.not_not, true_or, or_true, false_or, or_false, true_imp_iff, false_imp_iff, not_true_eq_false, not_false_eq_true, jif0, jif1, jifb, ltT, ltF, leT, leF, eqT, eqF, jlt, jle, jeq, jlt0, jle0, jeq0, jge0, jgt0, jinB, jnat, clt, cle, ceq, cgt, cge, lI_add, lI_sub, lI_mul, jadd, jsub, jmul, jneg, jtol, b010, b011, pv_2t, Int.toNat_natCast, Option.some.injEq, exists_eq_left', if_true, if_false, M4, g7]
              refine vs_ok 1 ?_
              rw [show ((gRes 206).drop 86).take 1 = [.aload 0] from rfl]
              simp (disch := omega) only [vs_aload0, vs_nil, gv_0, gv_1, gv_2, gv_3, pv_0, pv_1, va_rf_s, Nat.reduceDiv, Nat.reduceMod, Nat.reduceAdd, Nat.reduceMul, Int.reduceToNat, true_and, and_true, and_self, cP_eq, cP_ne, cP_lt, cP_ge, cP_gt, cP_le, eL_i, eL_l, eL_r, eL_n, Option.toList_none, Option.toList_some, List.nil_append, List.cons_append, kkI, llI, nnI, rrI, jjI, kkJ, llJ, nnJ, rrJ, iiJ, zIIs, zJJs, nEF, nET, and_false, false_and, jmin, jmax, catS_n, catS_i, catS_r, catS_l, Nat.reduceLeDiff, j1eq1, n21, jt0, jt1, Bool.false_eq_true, Classical.not_not, true_or, or_true, false_or, or_false, true_imp_iff, false_imp_iff, not_true_eq_false, not_false_eq_true, jif0, jif1, jifb, ltT, ltF, leT, leF, eqT, eqF, jlt, jle, jeq, jlt0, jle0, jeq0, jge0, jgt0, jinB, jnat, clt, cle, ceq, cgt, cge, lI_add, lI_sub, lI_mul, jadd, jsub, jmul, jneg, jtol, b010, b011, pv_2t, Int.toNat_natCast, Option.some.injEq, exists_eq_left', if_true, if_false]
              refine PW.iv rfl rfl rfl M4.1 M4.2 (le_b rfl) (le_b rfl) ?_
              refine t_nxt x4 fun g5 c5 x5 => ⟨rfl, ⟨c5.1.1.2.2.1, rfl⟩, ?_⟩
              have M5 := x5.m.k
              have C4 := x5.m.names
              have l5 := l4.tr (c5.ld (n := n))
              have y6 : zI g5 (m + 6) (12 + n) = iI (c : Nat) := by rw [c5.1.1.2.2.2.2.2.1 (m + 6) (by omega)]; exact h6
              have y5 : zI g5 (m + 5) = zI g4 (m + 5) := c5.1.1.2.2.2.2.2.1 _ (by omega)
              have ys : slV g5 m (12 + n) u := su.of (c5.1.1.2.2.2.2.2.2.1 _ (by omega)) (c5.1.1.2.2.2.2.2.2.1 _ (by omega))
              refine vs_ok 5 ?_
              rw [show ((gRes 206).drop 88).take 5 = [.aload 0, .getfield 12082, .iload 2, .lload 3, .lastore] from rfl]
              simp (disch := omega) only [vs_getfield, vs_lastore, vs_aload0, vs_iload2, vs_lload3, vs_nil, gv_0, gv_1, gv_2, gv_3, pv_0, pv_1, va_rf_s, Nat.reduceDiv, Nat.reduceMod, Nat.reduceAdd, Nat.reduceMul, Int.reduceToNat, true_and, and_true, and_self, cP_eq, cP_ne, cP_lt, cP_ge, cP_gt, cP_le, eL_i, eL_l, eL_r, eL_n, Option.toList_none, Option.toList_some, List.nil_append, List.cons_append, kkI, llI, nnI, rrI, jjI, kkJ, llJ, nnJ, rrJ, iiJ, zIIs, zJJs, nEF, nET, and_false, false_and, jmin, jmax, catS_n, catS_i, catS_r, catS_l, Nat.reduceLeDiff, j1eq1, n21, jt0, jt1, Bool.false_eq_true, Classical.not_not, true_or, or_true, false_or, or_false, true_imp_iff, false_imp_iff, not_true_eq_false, not_false_eq_true, jif0, jif1, jifb, ltT, ltF, leT, leF, eqT, eqF, jlt, jle, jeq, jlt0, jle0, jeq0, jge0, jgt0, jinB, jnat, clt, cle, ceq, cgt, cge, lI_add, lI_sub, lI_mul, jadd, jsub, jmul, jneg, jtol, b010, b011, pv_2t, Int.toNat_natCast, Option.some.injEq, exists_eq_left', if_true, if_false, M5, C4]
              have f6 : fi (fun q => q = m + 4) g5 (zsJ g5 (m + 4) (12 + n) (lI (wd8 (nx B sz s).2.2.1))) := fi_J rfl
              have q6 : mO (zsJ g5 (m + 4) (12 + n) (lI (wd8 (nx B sz s).2.2.1))) m := x5.m.fi f6
              have j6 : ∀ j, zJ (zsJ g5 (m + 4) (12 + n) (lI (wd8 (nx B sz s).2.2.1))) (m + 4) j = if j = 12 + n then lI (wd8 (nx B sz s).2.2.1) else zJ g5 (m + 4) j := fun j => by
                rw [zJ_sJ]
                by_cases z : j = 12 + n
                · rw [if_pos ⟨rfl, z⟩, if_pos z]
                · rw [if_neg (fun y => z y.2), if_neg z]
              have jo : ∀ q, q ≠ m + 4 → zJ (zsJ g5 (m + 4) (12 + n) (lI (wd8 (nx B sz s).2.2.1))) q = zJ g5 q := fun q hq => by
                funext j
                rw [zJ_sJ, if_neg (fun y => hq y.1)]
              have i6 : zI (zsJ g5 (m + 4) (12 + n) (lI (wd8 (nx B sz s).2.2.1))) = zI g5 := rfl
              generalize zsJ g5 (m + 4) (12 + n) (lI (wd8 (nx B sz s).2.2.1)) = g6 at *
              have M6 := q6.k
              have D7 := q6.nameMany
              have y71 : zI g6 (m + 7) 1 = iI n := by rw [i6]; exact x5.2.2.1.1
              refine vs_ok 8 ?_
              rw [show ((gRes 206).drop 93).take 8 = [.aload 0, .getfield 12112, .iconst 1, .dup2, .iaload, .iconst 1, .iadd, .iastore] from rfl]
              simp (disch := omega) only [vs_iadd, vs_iconst, vs_getfield, vs_iaload, vs_iastore, vs_dup2, vs_aload0, vs_nil, gv_0, gv_1, gv_2, gv_3, pv_0, pv_1, va_rf_s, Nat.reduceDiv, Nat.reduceMod, Nat.reduceAdd, Nat.reduceMul, Int.reduceToNat, true_and, and_true, and_self, cP_eq, cP_ne, cP_lt, cP_ge, cP_gt, cP_le, eL_i, eL_l, eL_r, eL_n, Option.toList_none, Option.toList_some, List.nil_append, List.cons_append, kkI, llI, nnI, rrI, jjI, kkJ, llJ, nnJ, rrJ, iiJ, zIIs, zJJs, nEF, nET, and_false, false_and, jmin, jmax, catS_n, catS_i, catS_r, catS_l, Nat.reduceLeDiff, j1eq1, n21, jt0, jt1, Bool.false_eq_true, Classical.not_not, true_or, or_true, false_or, or_false, true_imp_iff, false_imp_iff, not_true_eq_false, not_false_eq_true, jif0, jif1, jifb, ltT, ltF, leT, leF, eqT, eqF, jlt, jle, jeq, jlt0, jle0, jeq0, jge0, jgt0, jinB, jnat, clt, cle, ceq, cgt, cge, lI_add, lI_sub, lI_mul, jadd, jsub, jmul, jneg, jtol, b010, b011, pv_2t, Int.toNat_natCast, Option.some.injEq, exists_eq_left', if_true, if_false, M6, D7, y71]
              refine vs_ok 1 ?_
              rw [show ((gRes 206).drop 101).take 1 = [.goto 0] from rfl]
              simp (disch := omega) only [vs_goto, vs_nil, gv_0, gv_1, gv_2, gv_3, pv_0, pv_1, va_rf_s, Nat.reduceDiv, Nat.reduceMod, Nat.reduceAdd, Nat.reduceMul, Int.reduceToNat, true_and, and_true, and_self, cP_eq, cP_ne, cP_lt, cP_ge, cP_gt, cP_le, eL_i, eL_l, eL_r, eL_n, Option.toList_none, Option.toList_some, List.nil_append, List.cons_append, kkI, llI, nnI, rrI, jjI, kkJ, llJ, nnJ, rrJ, iiJ, zIIs, zJJs, nEF, nET, and_false, false_and, jmin, jmax, catS_n, catS_i, catS_r, catS_l, Nat.reduceLeDiff, j1eq1, n21, jt0, jt1, Bool.false_eq_true, Classical.not_not, true_or, or_true, false_or, or_false, true_imp_iff, false_imp_iff, not_true_eq_false, not_false_eq_true, jif0, jif1, jifb, ltT, ltF, leT, leF, eqT, eqF, jlt, jle, jeq, jlt0, jle0, jeq0, jge0, jgt0, jinB, jnat, clt, cle, ceq, cgt, cge, lI_add, lI_sub, lI_mul, jadd, jsub, jmul, jneg, jtol, b010, b011, pv_2t, Int.toNat_natCast, Option.some.injEq, exists_eq_left', if_true, if_false]
              have f7 : fi (fun q => q = m + 7) g6 (zsI g6 (m + 7) 1 (iI ((n : Int) + 1))) := fi_I rfl
              have l57 : ldC n g g5 m := l5
              have x7 : suG (zsI g6 (m + 7) 1 (iI ((n : Int) + 1))) m sz (n + 1) B (upI Wd n (nx B sz s).2.2.1) (upV V n u) (nx B sz s4) false := by
                refine ⟨x5.1.of (q6.fi f7) (fun i _ => by rw [zI_s, if_neg (by omega), i6]) (by funext i; rw [zI_s, if_neg (by omega), i6]) (by show zJ g6 m 23 = _; rw [jo _ (by omega)]), x5.2.1, ⟨by rw [zI_s, if_pos ⟨rfl, rfl⟩]; rfl, by omega, fun k hk => ?_⟩, ?_⟩
                · obtain ⟨n1, n2, n3⟩ := x5.2.2.1
                  show (0 ≤ (if k = n then (nx B sz s).2.2.1 else Wd k) ∧ (if k = n then (nx B sz s).2.2.1 else Wd k) < 387420489) ∧ zJ g6 (m + 4) (12 + k) = lI (wd8 (if k = n then (nx B sz s).2.2.1 else Wd k)) ∧ slV _ m (12 + k) (if k = n then u else V k) ∧ gV (if k = n then u else V k)
                  by_cases z : k = n
                  · rw [if_pos z, if_pos z, z, j6, if_pos rfl]
                    exact ⟨⟨w0, hw8.2⟩, rfl, ys.of (jo _ (by omega)) (jo _ (by omega)), gu⟩
                  · rw [if_neg z, if_neg z, j6, if_neg (by omega)]
                    obtain ⟨q1, q2, q3, q4⟩ := n3 k (by omega)
                    exact ⟨q1, q2, q3.of (jo _ (by omega)) (jo _ (by omega)), q4⟩
                · rw [zI_s, if_neg (by omega), i6]
                  exact x5.2.2.2
              have r7 : rdC h (zsI g6 (m + 7) 1 (iI ((n : Int) + 1))) m := by
                refine (rg.tr l57.rd).tr ?_
                refine ⟨(f6.wk fun q z => by omega).tr (f7.wk fun q z => by omega), fun i _ _ _ _ _ _ => by rw [zI_s, if_neg (by omega), i6], fun s _ => ⟨fun k _ => by show zJ g6 _ _ = _; rw [jo _ (by omega)], by show zJ g6 _ _ = _; rw [jo _ (by omega)]⟩, fun j _ => by rw [zI_s, if_neg (by omega), i6], fun j _ => by rw [zI_s, if_neg (by omega), i6], by rw [zI_s, if_neg (by omega), i6]⟩
              refine ih (n + 1) _ _ _ (fun k => if k = n then f else fl k) _ false _ _ _ _ _ (by omega) (ek c59 u hv) r7 x7 (faS.up (c := c) (v := u) ?_ ?_ hc (fun z => ?_))
              · refine fg.of (fun j h1 h2 => ?_) (fun j h1 h2 => ?_)
                · rw [zI_s, if_neg (by omega), i6, l57.2.2.2.1 j (by omega)]
                · rw [zI_s, if_neg (by omega), i6, l57.2.2.2.2 j (by omega)]
              · rw [zI_s, if_neg (by omega), i6]
                exact y6
              · obtain ⟨z1, z2⟩ := hf u hv z
                refine ⟨fun i hi => ?_, z2⟩
                rw [zI_s, if_neg (by omega), i6, y5]
                exact z1 i hi
          · rw [if_neg c59]
            obtain ⟨r1', r2'⟩ := e1 c59
            refine vs_ok 1 ?_
            rw [show ((gRes 206).drop 74).take 1 = [.ifCond .ne 79] from rfl]
            simp (disch := omega) only [vs_ifCond, vs_nil, gv_0, gv_1, gv_2, gv_3, pv_0, pv_1, va_rf_s, Nat.reduceDiv, Nat.reduceMod, Nat.reduceAdd, Nat.reduceMul, Int.reduceToNat, true_and, and_true, and_self, cP_eq, cP_ne, cP_lt, cP_ge, cP_gt, cP_le, eL_i, eL_l, eL_r, eL_n, Option.toList_none, Option.toList_some, List.nil_append, List.cons_append, kkI, llI, nnI, rrI, jjI, kkJ, llJ, nnJ, rrJ, iiJ, zIIs, zJJs, nEF, nET, and_false, false_and, jmin, jmax, catS_n, catS_i, catS_r, catS_l, Nat.reduceLeDiff, j1eq1, n21, jt0, jt1, Bool.false_eq_true, Classical.not_not, true_or, or_true, false_or, or_false, true_imp_iff, false_imp_iff, not_true_eq_false, not_false_eq_true, jif0, jif1, jifb, ltT, ltF, leT, leF, eqT, eqF, jlt, jle, jeq, jlt0, jle0, jeq0, jge0, jgt0, jinB, jnat, clt, cle, ceq, cgt, cge, lI_add, lI_sub, lI_mul, jadd, jsub, jmul, jneg, jtol, b010, b011, pv_2t, Int.toNat_natCast, Option.some.injEq, exists_eq_left', if_true, if_false]
            refine vs_ok 2 ?_
            rw [show ((gRes 206).drop 75).take 2 = [.aload 0, .iconst 1] from rfl]
            simp (disch := omega) only [vs_iconst, vs_aload0, vs_nil, gv_0, gv_1, gv_2, gv_3, pv_0, pv_1, va_rf_s, Nat.reduceDiv, Nat.reduceMod, Nat.reduceAdd, Nat.reduceMul, Int.reduceToNat, true_and, and_true, and_self, cP_eq, cP_ne, cP_lt, cP_ge, cP_gt, cP_le, eL_i, eL_l, eL_r, eL_n, Option.toList_none, Option.toList_some, List.nil_append, List.cons_append, kkI, llI, nnI, rrI, jjI, kkJ, llJ, nnJ, rrJ, iiJ, zIIs, zJJs, nEF, nET, and_false, false_and, jmin, jmax, catS_n, catS_i, catS_r, catS_l, Nat.reduceLeDiff, j1eq1, n21, jt0, jt1, Bool.false_eq_true, Classical.not_not, true_or, or_true, false_or, or_false, true_imp_iff, false_imp_iff, not_true_eq_false, not_false_eq_true, jif0, jif1, jifb, ltT, ltF, leT, leF, eqT, eqF, jlt, jle, jeq, jlt0, jle0, jeq0, jge0, jgt0, jinB, jnat, clt, cle, ceq, cgt, cge, lI_add, lI_sub, lI_mul, jadd, jsub, jmul, jneg, jtol, b010, b011, pv_2t, Int.toNat_natCast, Option.some.injEq, exists_eq_left', if_true, if_false]
            refine PW.iv rfl rfl rfl M4.1 M4.2 (le_b rfl) (le_b rfl) ?_
            refine t_bad x4 fun g5 f5 => ⟨rfl, ⟨f5.1.n, rfl⟩, ?_⟩
            refine vs_ok 1 ?_
            rw [show ((gRes 206).drop 78).take 1 = [.ireturn] from rfl]
            simp (disch := omega) only [vs_ireturn, vs_nil, gv_0, gv_1, gv_2, gv_3, pv_0, pv_1, va_rf_s, Nat.reduceDiv, Nat.reduceMod, Nat.reduceAdd, Nat.reduceMul, Int.reduceToNat, true_and, and_true, and_self, cP_eq, cP_ne, cP_lt, cP_ge, cP_gt, cP_le, eL_i, eL_l, eL_r, eL_n, Option.toList_none, Option.toList_some, List.nil_append, List.cons_append, kkI, llI, nnI, rrI, jjI, kkJ, llJ, nnJ, rrJ, iiJ, zIIs, zJJs, nEF, nET, and_false, false_and, jmin, jmax, catS_n, catS_i, catS_r, catS_l, Nat.reduceLeDiff, j1eq1, n21, jt0, jt1, Bool.false_eq_true, Classical.not_not, true_or, or_true, false_or, or_false, true_imp_iff, false_imp_iff, not_true_eq_false, not_false_eq_true, jif0, jif1, jifb, ltT, ltF, leT, leF, eqT, eqF, jlt, jle, jeq, jlt0, jle0, jeq0, jge0, jgt0, jinB, jnat, clt, cle, ceq, cgt, cge, lI_add, lI_sub, lI_mul, jadd, jsub, jmul, jneg, jtol, b010, b011, pv_2t, Int.toNat_natCast, Option.some.injEq, exists_eq_left', if_true, if_false, show gRc 206 = 2 from rfl]
            exact bd (by rw [r1']; decide) g5 (rg.bf.tr (l4.bf.tr f5.1.bf)) (by rw [f5.2.1, r1']) (by rw [r2']; exact f5.2.2)
        by_cases cd : wrP s 3164
        · rw [if_pos (decide_eq_true cd)] at hE
          rw [if_pos cd] at p71
          rw [if_pos cd]
          obtain ⟨R0, eR0⟩ : ∃ R0, fcS B sz 13 0 (V n) (nx B sz (nx B sz s)) = R0 := ⟨_, rfl⟩
          have eD : diS B sz (V n) (nx B sz (nx B sz s)) = if R0.1 = false then R0 else if R0.2.2.2.2.1 = 0 ∨ ¬ sgP R0.2.2.2.1 59 then (false, 1, R0.2.2.2.1.2.2.2, R0.2.2.2.1, R0.2.2.2.2) else (true, 0, 0, nx B sz R0.2.2.2.1, R0.2.2.2.2) := by
            unfold diS
            rw [eR0]
          refine vs_ok 2 ?_
          rw [show ((gRes 206).drop 58).take 2 = [.iload 1, .ifCond .eq 65] from rfl]
          simp (disch := omega) only [vs_ifCond, vs_iload1, vs_nil, gv_0, gv_1, gv_2, gv_3, pv_0, pv_1, va_rf_s, Nat.reduceDiv, Nat.reduceMod, Nat.reduceAdd, Nat.reduceMul, Int.reduceToNat, true_and, and_true, and_self, cP_eq, cP_ne, cP_lt, cP_ge, cP_gt, cP_le, eL_i, eL_l, eL_r, eL_n, Option.toList_none, Option.toList_some, List.nil_append, List.cons_append, kkI, llI, nnI, rrI, jjI, kkJ, llJ, nnJ, rrJ, iiJ, zIIs, zJJs, nEF, nET, and_false, false_and, jmin, jmax, catS_n, catS_i, catS_r, catS_l, Nat.reduceLeDiff, j1eq1, n21, jt0, jt1, Bool.false_eq_true, Classical.not_not, true_or, or_true, false_or, or_false, true_imp_iff, false_imp_iff, not_true_eq_false, not_false_eq_true, jif0, jif1, jifb, ltT, ltF, leT, leF, eqT, eqF, jlt, jle, jeq, jlt0, jle0, jeq0, jge0, jgt0, jinB, jnat, clt, cle, ceq, cgt, cge, lI_add, lI_sub, lI_mul, jadd, jsub, jmul, jneg, jtol, b010, b011, pv_2t, Int.toNat_natCast, Option.some.injEq, exists_eq_left', if_true, if_false]
          refine vs_ok 2 ?_
          rw [show ((gRes 206).drop 60).take 2 = [.aload 0, .iload 2] from rfl]
          simp (disch := omega) only [vs_aload0, vs_iload2, vs_nil, gv_0, gv_1, gv_2, gv_3, pv_0, pv_1, va_rf_s, Nat.reduceDiv, Nat.reduceMod, Nat.reduceAdd, Nat.reduceMul, Int.reduceToNat, true_and, and_true, and_self, cP_eq, cP_ne, cP_lt, cP_ge, cP_gt, cP_le, eL_i, eL_l, eL_r, eL_n, Option.toList_none, Option.toList_some, List.nil_append, List.cons_append, kkI, llI, nnI, rrI, jjI, kkJ, llJ, nnJ, rrJ, iiJ, zIIs, zJJs, nEF, nET, and_false, false_and, jmin, jmax, catS_n, catS_i, catS_r, catS_l, Nat.reduceLeDiff, j1eq1, n21, jt0, jt1, Bool.false_eq_true, Classical.not_not, true_or, or_true, false_or, or_false, true_imp_iff, false_imp_iff, not_true_eq_false, not_false_eq_true, jif0, jif1, jifb, ltT, ltF, leT, leF, eqT, eqF, jlt, jle, jeq, jlt0, jle0, jeq0, jge0, jgt0, jinB, jnat, clt, cle, ceq, cgt, cge, lI_add, lI_sub, lI_mul, jadd, jsub, jmul, jneg, jtol, b010, b011, pv_2t, Int.toNat_natCast, Option.some.injEq, exists_eq_left', if_true, if_false]
          refine PW.iv rfl rfl rfl M3.1 M3.2 (le_b rfl) (le_b rfl) ?_
          refine t_M_die x3 (by omega) eR0 (fun z1 z2 g4 fl4 l4 x4 d4 w4 t4 gv4 => ⟨rfl, ⟨l4.1.1.2.2.1, rfl⟩, ?_⟩) (fun kk pp hkp g4 l4 h21 h22 => ⟨rfl, ⟨l4.1.1.2.2.1, rfl⟩, ?_⟩)
          · refine vs_ok 1 ?_
            rw [show ((gRes 206).drop 63).take 1 = [.ifCond .eq 69] from rfl]
            simp (disch := omega) only [vs_ifCond, vs_nil, gv_0, gv_1, gv_2, gv_3, pv_0, pv_1, va_rf_s, Nat.reduceDiv, Nat.reduceMod, Nat.reduceAdd, Nat.reduceMul, Int.reduceToNat, true_and, and_true, and_self, cP_eq, cP_ne, cP_lt, cP_ge, cP_gt, cP_le, eL_i, eL_l, eL_r, eL_n, Option.toList_none, Option.toList_some, List.nil_append, List.cons_append, kkI, llI, nnI, rrI, jjI, kkJ, llJ, nnJ, rrJ, iiJ, zIIs, zJJs, nEF, nET, and_false, false_and, jmin, jmax, catS_n, catS_i, catS_r, catS_l, Nat.reduceLeDiff, j1eq1, n21, jt0, jt1, Bool.false_eq_true, Classical.not_not, true_or, or_true, false_or, or_false, true_imp_iff, false_imp_iff, not_true_eq_false, not_false_eq_true, jif0, jif1, jifb, ltT, ltF, leT, leF, eqT, eqF, jlt, jle, jeq, jlt0, jle0, jeq0, jge0, jgt0, jinB, jnat, clt, cle, ceq, cgt, cge, lI_add, lI_sub, lI_mul, jadd, jsub, jmul, jneg, jtol, b010, b011, pv_2t, Int.toNat_natCast, Option.some.injEq, exists_eq_left', if_true, if_false]
            refine vs_ok 1 ?_
            rw [show ((gRes 206).drop 64).take 1 = [.goto 71] from rfl]
            simp (disch := omega) only [vs_goto, vs_nil, gv_0, gv_1, gv_2, gv_3, pv_0, pv_1, va_rf_s, Nat.reduceDiv, Nat.reduceMod, Nat.reduceAdd, Nat.reduceMul, Int.reduceToNat, true_and, and_true, and_self, cP_eq, cP_ne, cP_lt, cP_ge, cP_gt, cP_le, eL_i, eL_l, eL_r, eL_n, Option.toList_none, Option.toList_some, List.nil_append, List.cons_append, kkI, llI, nnI, rrI, jjI, kkJ, llJ, nnJ, rrJ, iiJ, zIIs, zJJs, nEF, nET, and_false, false_and, jmin, jmax, catS_n, catS_i, catS_r, catS_l, Nat.reduceLeDiff, j1eq1, n21, jt0, jt1, Bool.false_eq_true, Classical.not_not, true_or, or_true, false_or, or_false, true_imp_iff, false_imp_iff, not_true_eq_false, not_false_eq_true, jif0, jif1, jifb, ltT, ltF, leT, leF, eqT, eqF, jlt, jle, jeq, jlt0, jle0, jeq0, jge0, jgt0, jinB, jnat, clt, cle, ceq, cgt, cge, lI_add, lI_sub, lI_mul, jadd, jsub, jmul, jneg, jtol, b010, b011, pv_2t, Int.toNat_natCast, Option.some.injEq, exists_eq_left', if_true, if_false]
            rw [if_neg (show ¬ R0.1 = false by rw [z1]; exact fun y => (by cases y))] at eD
            refine p71 g4 R0.2.2.2.1 false R0.2.2.2.2.1 (some R0.2.2.2.2.2) fl4 (l3'.tr l4) x4 d4.1 d4.2.1 (fun u hu _ => ?_) (fun _ => ⟨_, rfl, ⟨fun k hk => ?_, ?_⟩, gv4⟩) rfl (fun z => ?_) (fun _ z => by cases z) (fun z u hu => ?_)
            · rw [← Option.some.inj hu]
              exact ⟨d4.2.2.1, w4⟩
            · rw [w4]
              exact d4.2.2.2.1 k hk
            · rw [t4]
              exact d4.2.2.2.2
            · rw [eD.trans (if_pos (Or.inr z)), if_pos rfl] at hE
              rw [← Option.some.inj hE]
              exact ⟨rfl, rfl⟩
            · rw [eD.trans (if_neg (by rintro (y | y); exact z2 y; exact y z)), if_neg (show ¬ (true = false) from fun y => (by cases y))] at hE
              rw [← Option.some.inj hu]
              exact hE
          · refine vs_ok 1 ?_
            rw [show ((gRes 206).drop 63).take 1 = [.ifCond .eq 69] from rfl]
            simp (disch := omega) only [vs_ifCond, vs_nil, gv_0, gv_1, gv_2, gv_3, pv_0, pv_1, va_rf_s, Nat.reduceDiv, Nat.reduceMod, Nat.reduceAdd, Nat.reduceMul, Int.reduceToNat, true_and, and_true, and_self, cP_eq, cP_ne, cP_lt, cP_ge, cP_gt, cP_le, eL_i, eL_l, eL_r, eL_n, Option.toList_none, Option.toList_some, List.nil_append, List.cons_append, kkI, llI, nnI, rrI, jjI, kkJ, llJ, nnJ, rrJ, iiJ, zIIs, zJJs, nEF, nET, and_false, false_and, jmin, jmax, catS_n, catS_i, catS_r, catS_l, Nat.reduceLeDiff, j1eq1, n21, jt0, jt1, Bool.false_eq_true, Classical.not_not, true_or, or_true, false_or, or_false, true_imp_iff, false_imp_iff, not_true_eq_false, not_false_eq_true, jif0, jif1, jifb, ltT, ltF, leT, leF, eqT, eqF, jlt, jle, jeq, jlt0, jle0, jeq0, jge0, jgt0, jinB, jnat, clt, cle, ceq, cgt, cge, lI_add, lI_sub, lI_mul, jadd, jsub, jmul, jneg, jtol, b010, b011, pv_2t, Int.toNat_natCast, Option.some.injEq, exists_eq_left', if_true, if_false]
            refine vs_ok 2 ?_
            rw [show ((gRes 206).drop 69).take 2 = [.iconst 0, .ireturn] from rfl]
            simp (disch := omega) only [vs_iconst, vs_ireturn, vs_nil, gv_0, gv_1, gv_2, gv_3, pv_0, pv_1, va_rf_s, Nat.reduceDiv, Nat.reduceMod, Nat.reduceAdd, Nat.reduceMul, Int.reduceToNat, true_and, and_true, and_self, cP_eq, cP_ne, cP_lt, cP_ge, cP_gt, cP_le, eL_i, eL_l, eL_r, eL_n, Option.toList_none, Option.toList_some, List.nil_append, List.cons_append, kkI, llI, nnI, rrI, jjI, kkJ, llJ, nnJ, rrJ, iiJ, zIIs, zJJs, nEF, nET, and_false, false_and, jmin, jmax, catS_n, catS_i, catS_r, catS_l, Nat.reduceLeDiff, j1eq1, n21, jt0, jt1, Bool.false_eq_true, Classical.not_not, true_or, or_true, false_or, or_false, true_imp_iff, false_imp_iff, not_true_eq_false, not_false_eq_true, jif0, jif1, jifb, ltT, ltF, leT, leF, eqT, eqF, jlt, jle, jeq, jlt0, jle0, jeq0, jge0, jgt0, jinB, jnat, clt, cle, ceq, cgt, cge, lI_add, lI_sub, lI_mul, jadd, jsub, jmul, jneg, jtol, b010, b011, pv_2t, Int.toNat_natCast, Option.some.injEq, exists_eq_left', if_true, if_false, show gRc 206 = 2 from rfl]
            have eRb : R = (kk, pp, n, F, Wd, V) ∧ kk ≠ 0 := by
              rcases hkp with ⟨a, b, c⟩ | ⟨a, a2, b, c⟩
              · have e3 := eD.trans (if_pos a)
                have k0 := diS_k (B := B) (len := sz) (v0 := V n) (s := nx B sz (nx B sz s)) (by rw [e3]; exact a)
                rw [e3] at k0
                rw [e3, if_pos a] at hE
                rw [← Option.some.inj hE, b, c]
                exact ⟨rfl, by omega⟩
              · rw [if_neg (show ¬ R0.1 = false by rw [a]; exact fun y => (by cases y))] at eD
                rw [eD.trans (if_pos (Or.inl a2)), if_pos rfl] at hE
                rw [← Option.some.inj hE, b, c]
                exact ⟨rfl, by decide⟩
            exact bd (by rw [eRb.1]; exact eRb.2) g4 (rg.bf.tr (l3'.bf.tr l4)) (by rw [h21, eRb.1]) (by rw [eRb.1]; exact h22)
        · rw [if_neg (by rw [decide_eq_false cd]; decide)] at hE
          rw [if_neg cd] at p71
          rw [if_neg cd]
          cases e9 : leS B sz Wd n V (nx B sz (nx B sz s)) with
          | none => rw [e9] at hE; cases hE
          | some r =>
            rw [e9] at hE
            dsimp only at hE
            unfold leS at e9
            refine vs_ok 2 ?_
            rw [show ((gRes 206).drop 58).take 2 = [.iload 1, .ifCond .eq 65] from rfl]
            simp (disch := omega) only [vs_ifCond, vs_iload1, vs_nil, gv_0, gv_1, gv_2, gv_3, pv_0, pv_1, va_rf_s, Nat.reduceDiv, Nat.reduceMod, Nat.reduceAdd, Nat.reduceMul, Int.reduceToNat, true_and, and_true, and_self, cP_eq, cP_ne, cP_lt, cP_ge, cP_gt, cP_le, eL_i, eL_l, eL_r, eL_n, Option.toList_none, Option.toList_some, List.nil_append, List.cons_append, kkI, llI, nnI, rrI, jjI, kkJ, llJ, nnJ, rrJ, iiJ, zIIs, zJJs, nEF, nET, and_false, false_and, jmin, jmax, catS_n, catS_i, catS_r, catS_l, Nat.reduceLeDiff, j1eq1, n21, jt0, jt1, Bool.false_eq_true, Classical.not_not, true_or, or_true, false_or, or_false, true_imp_iff, false_imp_iff, not_true_eq_false, not_false_eq_true, jif0, jif1, jifb, ltT, ltF, leT, leF, eqT, eqF, jlt, jle, jeq, jlt0, jle0, jeq0, jge0, jgt0, jinB, jnat, clt, cle, ceq, cgt, cge, lI_add, lI_sub, lI_mul, jadd, jsub, jmul, jneg, jtol, b010, b011, pv_2t, Int.toNat_natCast, Option.some.injEq, exists_eq_left', if_true, if_false]
            refine vs_ok 2 ?_
            rw [show ((gRes 206).drop 65).take 2 = [.aload 0, .iload 2] from rfl]
            simp (disch := omega) only [vs_aload0, vs_iload2, vs_nil, gv_0, gv_1, gv_2, gv_3, pv_0, pv_1, va_rf_s, Nat.reduceDiv, Nat.reduceMod, Nat.reduceAdd, Nat.reduceMul, Int.reduceToNat, true_and, and_true, and_self, cP_eq, cP_ne, cP_lt, cP_ge, cP_gt, cP_le, eL_i, eL_l, eL_r, eL_n, Option.toList_none, Option.toList_some, List.nil_append, List.cons_append, kkI, llI, nnI, rrI, jjI, kkJ, llJ, nnJ, rrJ, iiJ, zIIs, zJJs, nEF, nET, and_false, false_and, jmin, jmax, catS_n, catS_i, catS_r, catS_l, Nat.reduceLeDiff, j1eq1, n21, jt0, jt1, Bool.false_eq_true, Classical.not_not, true_or, or_true, false_or, or_false, true_imp_iff, false_imp_iff, not_true_eq_false, not_false_eq_true, jif0, jif1, jifb, ltT, ltF, leT, leF, eqT, eqF, jlt, jle, jeq, jlt0, jle0, jeq0, jge0, jgt0, jinB, jnat, clt, cle, ceq, cgt, cge, lI_add, lI_sub, lI_mul, jadd, jsub, jmul, jneg, jtol, b010, b011, pv_2t, Int.toNat_natCast, Option.some.injEq, exists_eq_left', if_true, if_false]
            by_cases c61 : sgP (nx B sz (nx B sz s)) 61
            · rw [if_neg (fun z => z c61)] at e9
              cases e8 : smS B sz Wd n V 500 none 0 (nx B sz (nx B sz (nx B sz s))) with
              | none => rw [e8] at e9; cases e9
              | some q =>
                rw [e8] at e9
                dsimp only at e9
                refine PW.iv rfl rfl rfl M3.1 M3.2 (le_b rfl) (le_b rfl) ?_
                refine t_M_let (D := D) x3 (by omega) (fun _ => e8) (fun z1 z2 g4 tm4 l4 x4 k4 v4 t4 => ⟨rfl, ⟨l4.1.1.2.2.1, rfl⟩, ?_⟩) (fun kk pp hkp g4 l4 h21 h22 => ⟨rfl, ⟨l4.1.1.2.2.1, rfl⟩, ?_⟩)
                · refine vs_ok 1 ?_
                  rw [show ((gRes 206).drop 68).take 1 = [.ifCond .ne 71] from rfl]
                  simp (disch := omega) only [vs_ifCond, vs_nil, gv_0, gv_1, gv_2, gv_3, pv_0, pv_1, va_rf_s, Nat.reduceDiv, Nat.reduceMod, Nat.reduceAdd, Nat.reduceMul, Int.reduceToNat, true_and, and_true, and_self, cP_eq, cP_ne, cP_lt, cP_ge, cP_gt, cP_le, eL_i, eL_l, eL_r, eL_n, Option.toList_none, Option.toList_some, List.nil_append, List.cons_append, kkI, llI, nnI, rrI, jjI, kkJ, llJ, nnJ, rrJ, iiJ, zIIs, zJJs, nEF, nET, and_false, false_and, jmin, jmax, catS_n, catS_i, catS_r, catS_l, Nat.reduceLeDiff, j1eq1, n21, jt0, jt1, Bool.false_eq_true, Classical.not_not, true_or, or_true, false_or, or_false, true_imp_iff, false_imp_iff, not_true_eq_false, not_false_eq_true, jif0, jif1, jifb, ltT, ltF, leT, leF, eqT, eqF, jlt, jle, jeq, jlt0, jle0, jeq0, jge0, jgt0, jinB, jnat, clt, cle, ceq, cgt, cge, lI_add, lI_sub, lI_mul, jadd, jsub, jmul, jneg, jtol, b010, b011, pv_2t, Int.toNat_natCast, Option.some.injEq, exists_eq_left', if_true, if_false]
                  rw [if_neg (by rw [z2]; decide)] at e9
                  refine p71 g4 q.2.2.2.1 tm4 0 q.2.2.2.2 (fun _ => 0) (l3'.tr l4) x4 k4 (by omega) (fun u hu z => absurd z (by omega)) v4 t4 (fun z => ?_) (fun z y => ?_) (fun z u hu => ?_)
                  · rw [if_pos z] at e9
                    rw [← Option.some.inj e9, if_pos rfl] at hE
                    rw [← Option.some.inj hE]
                    exact ⟨rfl, rfl⟩
                  · rw [if_neg (fun w => w z), y] at e9
                    dsimp only at e9
                    rw [← Option.some.inj e9, if_pos rfl] at hE
                    rw [← Option.some.inj hE]
                    exact ⟨rfl, rfl⟩
                  · rw [if_neg (fun w => w z), hu] at e9
                    dsimp only at e9
                    rw [← Option.some.inj e9, if_neg (show ¬ (true = false) from fun y => (by cases y))] at hE
                    exact hE
                · refine vs_ok 1 ?_
                  rw [show ((gRes 206).drop 68).take 1 = [.ifCond .ne 71] from rfl]
                  simp (disch := omega) only [vs_ifCond, vs_nil, gv_0, gv_1, gv_2, gv_3, pv_0, pv_1, va_rf_s, Nat.reduceDiv, Nat.reduceMod, Nat.reduceAdd, Nat.reduceMul, Int.reduceToNat, true_and, and_true, and_self, cP_eq, cP_ne, cP_lt, cP_ge, cP_gt, cP_le, eL_i, eL_l, eL_r, eL_n, Option.toList_none, Option.toList_some, List.nil_append, List.cons_append, kkI, llI, nnI, rrI, jjI, kkJ, llJ, nnJ, rrJ, iiJ, zIIs, zJJs, nEF, nET, and_false, false_and, jmin, jmax, catS_n, catS_i, catS_r, catS_l, Nat.reduceLeDiff, j1eq1, n21, jt0, jt1, Bool.false_eq_true, Classical.not_not, true_or, or_true, false_or, or_false, true_imp_iff, false_imp_iff, not_true_eq_false, not_false_eq_true, jif0, jif1, jifb, ltT, ltF, leT, leF, eqT, eqF, jlt, jle, jeq, jlt0, jle0, jeq0, jge0, jgt0, jinB, jnat, clt, cle, ceq, cgt, cge, lI_add, lI_sub, lI_mul, jadd, jsub, jmul, jneg, jtol, b010, b011, pv_2t, Int.toNat_natCast, Option.some.injEq, exists_eq_left', if_true, if_false]
                  refine vs_ok 2 ?_
                  rw [show ((gRes 206).drop 69).take 2 = [.iconst 0, .ireturn] from rfl]
                  simp (disch := omega) only [vs_iconst, vs_ireturn, vs_nil, gv_0, gv_1, gv_2, gv_3, pv_0, pv_1, va_rf_s, Nat.reduceDiv, Nat.reduceMod, Nat.reduceAdd, Nat.reduceMul, Int.reduceToNat, true_and, and_true, and_self, cP_eq, cP_ne, cP_lt, cP_ge, cP_gt, cP_le, eL_i, eL_l, eL_r, eL_n, Option.toList_none, Option.toList_some, List.nil_append, List.cons_append, kkI, llI, nnI, rrI, jjI, kkJ, llJ, nnJ, rrJ, iiJ, zIIs, zJJs, nEF, nET, and_false, false_and, jmin, jmax, catS_n, catS_i, catS_r, catS_l, Nat.reduceLeDiff, j1eq1, n21, jt0, jt1, Bool.false_eq_true, Classical.not_not, true_or, or_true, false_or, or_false, true_imp_iff, false_imp_iff, not_true_eq_false, not_false_eq_true, jif0, jif1, jifb, ltT, ltF, leT, leF, eqT, eqF, jlt, jle, jeq, jlt0, jle0, jeq0, jge0, jgt0, jinB, jnat, clt, cle, ceq, cgt, cge, lI_add, lI_sub, lI_mul, jadd, jsub, jmul, jneg, jtol, b010, b011, pv_2t, Int.toNat_natCast, Option.some.injEq, exists_eq_left', if_true, if_false, show gRc 206 = 2 from rfl]
                  have hkp : q.1 = false ∧ kk = q.2.1 ∧ pp = q.2.2.1 := by
                    rcases hkp with ⟨a, -⟩ | ⟨-, a⟩
                    · exact absurd c61 a
                    · exact a
                  rw [if_pos hkp.1] at e9
                  have er := Option.some.inj e9
                  have kk1 := leS_k (B := B) (len := sz) (Wd := Wd) (nm := n) (V := V) (s := nx B sz (nx B sz s)) (r := r) (by unfold leS; rw [if_neg (fun z => z c61), e8]; dsimp only; rw [if_pos hkp.1]; exact e9) (by rw [← er])
                  rw [← er, if_pos rfl] at hE
                  rw [← er] at kk1
                  have eRb := Option.some.inj hE
                  exact bd (by rw [← eRb]; show q.2.1 ≠ 0; have := kk1; dsimp only at this; omega) g4 (rg.bf.tr (l3'.bf.tr l4)) (by rw [h21, ← eRb, hkp.2.1]) (by rw [← eRb]; rw [hkp.2.2] at h22; exact h22)
            · rw [if_pos c61] at e9
              refine PW.iv rfl rfl rfl M3.1 M3.2 (le_b rfl) (le_b rfl) ?_
              refine t_M_let (D := D) (q := (true, 0, 0, s, none)) x3 (by omega) (fun z => absurd z c61) (fun z1 => absurd z1 c61) (fun kk pp hkp g4 l4 h21 h22 => ⟨rfl, ⟨l4.1.1.2.2.1, rfl⟩, ?_⟩)
              refine vs_ok 1 ?_
              rw [show ((gRes 206).drop 68).take 1 = [.ifCond .ne 71] from rfl]
              simp (disch := omega) only [vs_ifCond, vs_nil, gv_0, gv_1, gv_2, gv_3, pv_0, pv_1, va_rf_s, Nat.reduceDiv, Nat.reduceMod, Nat.reduceAdd, Nat.reduceMul, Int.reduceToNat, true_and, and_true, and_self, cP_eq, cP_ne, cP_lt, cP_ge, cP_gt, cP_le, eL_i, eL_l, eL_r, eL_n, Option.toList_none, Option.toList_some, List.nil_append, List.cons_append, kkI, llI, nnI, rrI, jjI, kkJ, llJ, nnJ, rrJ, iiJ, zIIs, zJJs, nEF, nET, and_false, false_and, jmin, jmax, catS_n, catS_i, catS_r, catS_l, Nat.reduceLeDiff, j1eq1, n21, jt0, jt1, Bool.false_eq_true, Classical.not_not, true_or, or_true, false_or, or_false, true_imp_iff, false_imp_iff, not_true_eq_false, not_false_eq_true, jif0, jif1, jifb, ltT, ltF, leT, leF, eqT, eqF, jlt, jle, jeq, jlt0, jle0, jeq0, jge0, jgt0, jinB, jnat, clt, cle, ceq, cgt, cge, lI_add, lI_sub, lI_mul, jadd, jsub, jmul, jneg, jtol, b010, b011, pv_2t, Int.toNat_natCast, Option.some.injEq, exists_eq_left', if_true, if_false]
              refine vs_ok 2 ?_
              rw [show ((gRes 206).drop 69).take 2 = [.iconst 0, .ireturn] from rfl]
              simp (disch := omega) only [vs_iconst, vs_ireturn, vs_nil, gv_0, gv_1, gv_2, gv_3, pv_0, pv_1, va_rf_s, Nat.reduceDiv, Nat.reduceMod, Nat.reduceAdd, Nat.reduceMul, Int.reduceToNat, true_and, and_true, and_self, cP_eq, cP_ne, cP_lt, cP_ge, cP_gt, cP_le, eL_i, eL_l, eL_r, eL_n, Option.toList_none, Option.toList_some, List.nil_append, List.cons_append, kkI, llI, nnI, rrI, jjI, kkJ, llJ, nnJ, rrJ, iiJ, zIIs, zJJs, nEF, nET, and_false, false_and, jmin, jmax, catS_n, catS_i, catS_r, catS_l, Nat.reduceLeDiff, j1eq1, n21, jt0, jt1, Bool.false_eq_true, Classical.not_not, true_or, or_true, false_or, or_false, true_imp_iff, false_imp_iff, not_true_eq_false, not_false_eq_true, jif0, jif1, jifb, ltT, ltF, leT, leF, eqT, eqF, jlt, jle, jeq, jlt0, jle0, jeq0, jge0, jgt0, jinB, jnat, clt, cle, ceq, cgt, cge, lI_add, lI_sub, lI_mul, jadd, jsub, jmul, jneg, jtol, b010, b011, pv_2t, Int.toNat_natCast, Option.some.injEq, exists_eq_left', if_true, if_false, show gRc 206 = 2 from rfl]
              have hkp : kk = 1 ∧ pp = (nx B sz (nx B sz s)).2.2.2 := by
                rcases hkp with ⟨-, a⟩ | ⟨a, -⟩
                · exact a
                · exact absurd a c61
              rw [← Option.some.inj e9, if_pos rfl] at hE
              have eRb := Option.some.inj hE
              exact bd (by rw [← eRb]; show (1 : Int) ≠ 0; decide) g4 (rg.bf.tr (l3'.bf.tr l4)) (by rw [h21, ← eRb, hkp.1]) (by rw [← eRb]; rw [hkp.2] at h22; exact h22)
      refine vs_ok 3 ?_
      rw [show ((gRes 206).drop 0).take 3 = [.aload 0, .getfield 12170, .ifCond .eq 102] from rfl]
      simp (disch := omega) only [vs_ifCond, vs_getfield, vs_aload0, vs_nil, gv_0, gv_1, gv_2, gv_3, pv_0, pv_1, va_rf_s, Nat.reduceDiv, Nat.reduceMod, Nat.reduceAdd, Nat.reduceMul, Int.reduceToNat, true_and, and_true, and_self, cP_eq, cP_ne, cP_lt, cP_ge, cP_gt, cP_le, eL_i, eL_l, eL_r, eL_n, Option.toList_none, Option.toList_some, List.nil_append, List.cons_append, kkI, llI, nnI, rrI, jjI, kkJ, llJ, nnJ, rrJ, iiJ, zIIs, zJJs, nEF, nET, and_false, false_and, jmin, jmax, catS_n, catS_i, catS_r, catS_l, Nat.reduceLeDiff, j1eq1, n21, jt0, jt1, Bool.false_eq_true, Classical.not_not, true_or, or_true, false_or, or_false, true_imp_iff, false_imp_iff, not_true_eq_false, not_false_eq_true, jif0, jif1, jifb, ltT, ltF, leT, leF, eqT, eqF, jlt, jle, jeq, jlt0, jle0, jeq0, jge0, jgt0, jinB, jnat, clt, cle, ceq, cgt, cge, lI_add, lI_sub, lI_mul, jadd, jsub, jmul, jneg, jtol, b010, b011, pv_2t, Int.toNat_natCast, Option.some.injEq, exists_eq_left', if_true, if_false, M, h17]
      refine vs_ok 2 ?_
      rw [show ((gRes 206).drop 3).take 2 = [.aload 0, .jsr_w 6580581] from rfl]
      simp (disch := omega) only [vs_jsr_w, vs_aload0, vs_nil, gv_0, gv_1, gv_2, gv_3, pv_0, pv_1, va_rf_s, Nat.reduceDiv, Nat.reduceMod, Nat.reduceAdd, Nat.reduceMul, Int.reduceToNat, true_and, and_true, and_self, cP_eq, cP_ne, cP_lt, cP_ge, cP_gt, cP_le, eL_i, eL_l, eL_r, eL_n, Option.toList_none, Option.toList_some, List.nil_append, List.cons_append, kkI, llI, nnI, rrI, jjI, kkJ, llJ, nnJ, rrJ, iiJ, zIIs, zJJs, nEF, nET, and_false, false_and, jmin, jmax, catS_n, catS_i, catS_r, catS_l, Nat.reduceLeDiff, j1eq1, n21, jt0, jt1, Bool.false_eq_true, Classical.not_not, true_or, or_true, false_or, or_false, true_imp_iff, false_imp_iff, not_true_eq_false, not_false_eq_true, jif0, jif1, jifb, ltT, ltF, leT, leF, eqT, eqF, jlt, jle, jeq, jlt0, jle0, jeq0, jge0, jgt0, jinB, jnat, clt, cle, ceq, cgt, cge, lI_add, lI_sub, lI_mul, jadd, jsub, jmul, jneg, jtol, b010, b011, pv_2t, Int.toNat_natCast, Option.some.injEq, exists_eq_left', if_true, if_false]
      refine PW.iv rfl rfl rfl M.1 M.2 (le_b rfl) (le_b rfl) ?_
      refine t_wrd xg.1 xg.2.1 (w := 3164) (by omega) rfl ⟨rfl, ⟨rfl, rfl⟩, ?_⟩
      by_cases cd : wrP s 3164
      · rw [if_pos cd] at p17 ⊢
        refine vs_ok 3 ?_
        rw [show ((gRes 206).drop 6).take 3 = [.istore 1, .iload 1, .ifCond .ne 17] from rfl]
        simp (disch := omega) only [vs_ifCond, vs_iload1, vs_istore1n, vs_istore1i, vs_istore1r, vs_istore1l, vs_nil, gv_0, gv_1, gv_2, gv_3, pv_0, pv_1, va_rf_s, Nat.reduceDiv, Nat.reduceMod, Nat.reduceAdd, Nat.reduceMul, Int.reduceToNat, true_and, and_true, and_self, cP_eq, cP_ne, cP_lt, cP_ge, cP_gt, cP_le, eL_i, eL_l, eL_r, eL_n, Option.toList_none, Option.toList_some, List.nil_append, List.cons_append, kkI, llI, nnI, rrI, jjI, kkJ, llJ, nnJ, rrJ, iiJ, zIIs, zJJs, nEF, nET, and_false, false_and, jmin, jmax, catS_n, catS_i, catS_r, catS_l, Nat.reduceLeDiff, j1eq1, n21, jt0, jt1, Bool.false_eq_true, Classical.not_not, true_or, or_true, false_or, or_false, true_imp_iff, false_imp_iff, not_true_eq_false, not_false_eq_true, jif0, jif1, jifb, ltT, ltF, leT, leF, eqT, eqF, jlt, jle, jeq, jlt0, jle0, jeq0, jge0, jgt0, jinB, jnat, clt, cle, ceq, cgt, cge, lI_add, lI_sub, lI_mul, jadd, jsub, jmul, jneg, jtol, b010, b011, pv_2t, Int.toNat_natCast, Option.some.injEq, exists_eq_left', if_true, if_false]
        exact p17 (Or.inl cd)
      · rw [if_neg cd] at p17 ⊢
        refine vs_ok 3 ?_
        rw [show ((gRes 206).drop 6).take 3 = [.istore 1, .iload 1, .ifCond .ne 17] from rfl]
        simp (disch := omega) only [vs_ifCond, vs_iload1, vs_istore1n, vs_istore1i, vs_istore1r, vs_istore1l, vs_nil, gv_0, gv_1, gv_2, gv_3, pv_0, pv_1, va_rf_s, Nat.reduceDiv, Nat.reduceMod, Nat.reduceAdd, Nat.reduceMul, Int.reduceToNat, true_and, and_true, and_self, cP_eq, cP_ne, cP_lt, cP_ge, cP_gt, cP_le, eL_i, eL_l, eL_r, eL_n, Option.toList_none, Option.toList_some, List.nil_append, List.cons_append, kkI, llI, nnI, rrI, jjI, kkJ, llJ, nnJ, rrJ, iiJ, zIIs, zJJs, nEF, nET, and_false, false_and, jmin, jmax, catS_n, catS_i, catS_r, catS_l, Nat.reduceLeDiff, j1eq1, n21, jt0, jt1, Bool.false_eq_true, Classical.not_not, true_or, or_true, false_or, or_false, true_imp_iff, false_imp_iff, not_true_eq_false, not_false_eq_true, jif0, jif1, jifb, ltT, ltF, leT, leF, eqT, eqF, jlt, jle, jeq, jlt0, jle0, jeq0, jge0, jgt0, jinB, jnat, clt, cle, ceq, cgt, cge, lI_add, lI_sub, lI_mul, jadd, jsub, jmul, jneg, jtol, b010, b011, pv_2t, Int.toNat_natCast, Option.some.injEq, exists_eq_left', if_true, if_false]
        refine vs_ok 2 ?_
        rw [show ((gRes 206).drop 9).take 2 = [.aload 0, .jsr_w 7103860] from rfl]
        simp (disch := omega) only [vs_jsr_w, vs_aload0, vs_nil, gv_0, gv_1, gv_2, gv_3, pv_0, pv_1, va_rf_s, Nat.reduceDiv, Nat.reduceMod, Nat.reduceAdd, Nat.reduceMul, Int.reduceToNat, true_and, and_true, and_self, cP_eq, cP_ne, cP_lt, cP_ge, cP_gt, cP_le, eL_i, eL_l, eL_r, eL_n, Option.toList_none, Option.toList_some, List.nil_append, List.cons_append, kkI, llI, nnI, rrI, jjI, kkJ, llJ, nnJ, rrJ, iiJ, zIIs, zJJs, nEF, nET, and_false, false_and, jmin, jmax, catS_n, catS_i, catS_r, catS_l, Nat.reduceLeDiff, j1eq1, n21, jt0, jt1, Bool.false_eq_true, Classical.not_not, true_or, or_true, false_or, or_false, true_imp_iff, false_imp_iff, not_true_eq_false, not_false_eq_true, jif0, jif1, jifb, ltT, ltF, leT, leF, eqT, eqF, jlt, jle, jeq, jlt0, jle0, jeq0, jge0, jgt0, jinB, jnat, clt, cle, ceq, cgt, cge, lI_add, lI_sub, lI_mul, jadd, jsub, jmul, jneg, jtol, b010, b011, pv_2t, Int.toNat_natCast, Option.some.injEq, exists_eq_left', if_true, if_false]
        refine PW.iv rfl rfl rfl M.1 M.2 (le_b rfl) (le_b rfl) ?_
        refine t_wrd xg.1 xg.2.1 (w := 8903) (by omega) rfl ⟨rfl, ⟨rfl, rfl⟩, ?_⟩
        by_cases cl : wrP s 8903
        · rw [if_pos cl]
          refine vs_ok 1 ?_
          rw [show ((gRes 206).drop 12).take 1 = [.ifCond .ne 17] from rfl]
          simp (disch := omega) only [vs_ifCond, vs_nil, gv_0, gv_1, gv_2, gv_3, pv_0, pv_1, va_rf_s, Nat.reduceDiv, Nat.reduceMod, Nat.reduceAdd, Nat.reduceMul, Int.reduceToNat, true_and, and_true, and_self, cP_eq, cP_ne, cP_lt, cP_ge, cP_gt, cP_le, eL_i, eL_l, eL_r, eL_n, Option.toList_none, Option.toList_some, List.nil_append, List.cons_append, kkI, llI, nnI, rrI, jjI, kkJ, llJ, nnJ, rrJ, iiJ, zIIs, zJJs, nEF, nET, and_false, false_and, jmin, jmax, catS_n, catS_i, catS_r, catS_l, Nat.reduceLeDiff, j1eq1, n21, jt0, jt1, Bool.false_eq_true, Classical.not_not, true_or, or_true, false_or, or_false, true_imp_iff, false_imp_iff, not_true_eq_false, not_false_eq_true, jif0, jif1, jifb, ltT, ltF, leT, leF, eqT, eqF, jlt, jle, jeq, jlt0, jle0, jeq0, jge0, jgt0, jinB, jnat, clt, cle, ceq, cgt, cge, lI_add, lI_sub, lI_mul, jadd, jsub, jmul, jneg, jtol, b010, b011, pv_2t, Int.toNat_natCast, Option.some.injEq, exists_eq_left', if_true, if_false]
          exact p17 (Or.inr cl)
        · rw [if_neg cl]
          rw [if_pos ⟨cd, cl⟩] at eH
          rw [if_pos (by rw [eH])] at hE
          have hE := Option.some.inj hE
          refine vs_ok 1 ?_
          rw [show ((gRes 206).drop 12).take 1 = [.ifCond .ne 17] from rfl]
          simp (disch := omega) only [vs_ifCond, vs_nil, gv_0, gv_1, gv_2, gv_3, pv_0, pv_1, va_rf_s, Nat.reduceDiv, Nat.reduceMod, Nat.reduceAdd, Nat.reduceMul, Int.reduceToNat, true_and, and_true, and_self, cP_eq, cP_ne, cP_lt, cP_ge, cP_gt, cP_le, eL_i, eL_l, eL_r, eL_n, Option.toList_none, Option.toList_some, List.nil_append, List.cons_append, kkI, llI, nnI, rrI, jjI, kkJ, llJ, nnJ, rrJ, iiJ, zIIs, zJJs, nEF, nET, and_false, false_and, jmin, jmax, catS_n, catS_i, catS_r, catS_l, Nat.reduceLeDiff, j1eq1, n21, jt0, jt1, Bool.false_eq_true, Classical.not_not, true_or, or_true, false_or, or_false, true_imp_iff, false_imp_iff, not_true_eq_false, not_false_eq_true, jif0, jif1, jifb, ltT, ltF, leT, leF, eqT, eqF, jlt, jle, jeq, jlt0, jle0, jeq0, jge0, jgt0, jinB, jnat, clt, cle, ceq, cgt, cge, lI_add, lI_sub, lI_mul, jadd, jsub, jmul, jneg, jtol, b010, b011, pv_2t, Int.toNat_natCast, Option.some.injEq, exists_eq_left', if_true, if_false]
          exact bad1 (by rw [← hE, eH]) (by rw [← hE, eH]) _
  exact lp 13 0 F0 Wd0 V0 (fun _ _ => 0) s0 tm0 h none none none none (by omega) hR rdC.rf x (fun k hk => absurd hk (by omega))
