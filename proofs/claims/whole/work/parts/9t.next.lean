/-! the Model: nextWord -/
/-- the next word: i's letter and k's change places, what stands behind i is turned round -/
def nxW (w : Nat → Nat) (i k L j : Nat) : Nat := if j ≤ i then swW w i k j else swW w i k (L + i - j)
/-- half way: all before lo, and as many from the end on, is turned round -/
def rvW (w : Nat → Nat) (i k L lo u : Nat) : Nat := if u ≤ i then swW w i k u else if u < lo ∨ L + i - lo < u then swW w i k (L + i - u) else swW w i k u
theorem rv_nx {w : Nat → Nat} {i k L lo u : Nat} (h1 : L + i - lo ≤ lo) (h2 : i < lo) (h3 : lo ≤ L) (hu : u < L) : rvW w i k L lo u = nxW w i k L u := by
  unfold rvW nxW
  by_cases c : u ≤ i
  · rw [if_pos c, if_pos c]
  · rw [if_neg c, if_neg c]
    by_cases c2 : u < lo ∨ L + i - lo < u
    · rw [if_pos c2]
    · rw [if_neg c2, show L + i - u = u by omega]
theorem rv_s {w : Nat → Nat} {i k L lo H u : Nat} (h1 : L + i - lo = H) (h2 : i < lo) (h3 : lo < H) (hu : u < L) : swW (rvW w i k L lo) lo H u = rvW w i k L (lo + 1) u := by
  show (if u = H then rvW w i k L lo lo else if u = lo then rvW w i k L lo H else rvW w i k L lo u) = rvW w i k L (lo + 1) u
  unfold rvW
  generalize swW w i k = s
  rw [h1]
  by_cases u1 : u ≤ i
  · rw [if_neg (show ¬ u = H by omega), if_neg (show ¬ u = lo by omega), if_pos u1, if_pos u1]
  · by_cases u2 : u = H
    · rw [if_pos u2, if_neg (show ¬ lo ≤ i by omega), if_neg (show ¬ (lo < lo ∨ H < lo) by omega), if_neg u1, if_pos (show u < lo + 1 ∨ L + i - (lo + 1) < u by omega), show L + i - u = lo by omega]
    · rw [if_neg u2]
      by_cases u3 : u = lo
      · rw [if_pos u3, if_neg (show ¬ H ≤ i by omega), if_neg (show ¬ (H < lo ∨ H < H) by omega), if_neg u1, if_pos (show u < lo + 1 ∨ L + i - (lo + 1) < u by omega), show L + i - u = H by omega]
      · rw [if_neg u3, if_neg u1, if_neg u1]
        by_cases u4 : u < lo ∨ H < u
        · rw [if_pos u4, if_pos (show u < lo + 1 ∨ L + i - (lo + 1) < u by omega)]
        · rw [if_neg u4, if_neg (show ¬ (u < lo + 1 ∨ L + i - (lo + 1) < u) by omega)]
theorem rv_0 {w : Nat → Nat} {i k L u : Nat} (h : i + 1 < L) (hu : u < L) : rvW w i k L (i + 1) u = swW w i k u := by
  unfold rvW
  by_cases c : u ≤ i
  · rw [if_pos c]
  · rw [if_neg c, if_neg (show ¬ (u < i + 1 ∨ L + i - (i + 1) < u) by omega)]
theorem ltS.eq {h : Hp} {m L : Nat} {w w' : Nat → Nat} (t : ltS h m L w) (e : ∀ u, u < L → w' u = w u) : ltS h m L w' := ⟨t.1, t.2.1, fun u hu => by rw [e u hu]; exact t.2.2 u hu⟩
theorem t_M_nextWord {d : Nat} {h : Hp} {m L : Nat} {w : Nat → Nat} {Q : Nat → Option Value → Hp → Prop} (hm : mO h m) (t : ltS h m L w) (hL : 1 ≤ L)
    (hq0 : (∀ i, i + 1 < L → ¬ w i < w (i + 1)) → Q 0 (some (.int (iI 0))) h)
    (hq1 : ∀ i k, i + 1 < L → w i < w (i + 1) → (∀ j, i < j → j + 1 < L → ¬ w j < w (j + 1)) → i < k → k < L → w i < w k → (∀ j, k < j → j < L → ¬ w i < w j) → ∀ g, fi (fun q => q = m + 27) h g → ltS g m L (nxW w i k L) → Q 0 (some (.int (iI 1))) g) : PR (d + 1) m_M_nextWord [.ref m] h Q := by
  have M := hm.k
  have A := hm.letters
  have h52 := t.1
  have l24 := t.2.1
  show PW (d + 1) 258 0 [some (.ref m), none, none, none, none] [] h Q
  -- what stands behind i is turned round
  have l53 : ∀ (i k : Nat), i + 1 < L → (∀ g, fi (fun q => q = m + 27) h g → ltS g m L (nxW w i k L) → Q 0 (some (.int (iI 1))) g) → ∀ (j lo : Nat) (hi : Int) (g : Hp), hi = (L : Int) + i - lo → (hi - lo ≤ 2 * (j : Int)) → i < lo → lo ≤ L → fi (fun q => q = m + 27) h g → ltS g m L (rvW w i k L lo) → PW (d + 1) 258 53 [some (.ref m), some (.int (iI i)), some (.int (iI k)), some (.int (iI lo)), some (.int (iI hi))] [] g Q := by
    intro i k hi1 K j
    induction j with
    | zero =>
      intro lo hi g e1 e2 e3 e4 f tg
      refine vs_ok 3 ?_
      rw [show ((gRes 258).drop 53).take 3 = [.iload 3, .iload 4, .if_icmp .ge 63] from rfl]
      simp (disch := omega) only [vs_if_icmp, vs_iload3, vs_iload4, vs_nil, gv_0, gv_1, gv_2, gv_3, pv_0, pv_1, va_rf_s, Nat.reduceDiv, Nat.reduceMod, Nat.reduceAdd, Nat.reduceMul, Int.reduceToNat, true_and, and_true, and_self, cP_eq, cP_ne, cP_lt, cP_ge, cP_gt, cP_le, eL_i, eL_l, eL_r, eL_n, Option.toList_none, Option.toList_some, List.nil_append, List.cons_append, kkI, llI, nnI, rrI, jjI, kkJ, llJ, nnJ, rrJ, iiJ, zIIs, zJJs, nEF, nET, and_false, false_and, jmin, jmax, catS_n, catS_i, catS_r, catS_l, Nat.reduceLeDiff, j1eq1, n21, jt0, jt1, Bool.false_eq_true, Classical.not_not, true_or, or_true, false_or, or_false, true_imp_iff, false_imp_iff, not_true_eq_false, not_false_eq_true, jif0, jif1, jifb, ltT, ltF, leT, leF, eqT, eqF, jlt, jle, jeq, jlt0, jle0, jeq0, jge0, jgt0, jinB, jnat, clt, cle, ceq, cgt, cge, lI_add, lI_sub, lI_mul, jadd, jsub, jmul, jneg, jtol, b010, b011, pv_2t, Int.toNat_natCast, Option.some.injEq, exists_eq_left', if_true, if_false]
      refine vs_ok 2 ?_
      rw [show ((gRes 258).drop 63).take 2 = [.iconst 1, .ireturn] from rfl]
      simp (disch := omega) only [vs_iconst, vs_ireturn, vs_nil, gv_0, gv_1, gv_2, gv_3, pv_0, pv_1, va_rf_s, Nat.reduceDiv, Nat.reduceMod, Nat.reduceAdd, Nat.reduceMul, Int.reduceToNat, true_and, and_true, and_self, cP_eq, cP_ne, cP_lt, cP_ge, cP_gt, cP_le, eL_i, eL_l, eL_r, eL_n, Option.toList_none, Option.toList_some, List.nil_append, List.cons_append, kkI, llI, nnI, rrI, jjI, kkJ, llJ, nnJ, rrJ, iiJ, zIIs, zJJs, nEF, nET, and_false, false_and, jmin, jmax, catS_n, catS_i, catS_r, catS_l, Nat.reduceLeDiff, j1eq1, n21, jt0, jt1, Bool.false_eq_true, Classical.not_not, true_or, or_true, false_or, or_false, true_imp_iff, false_imp_iff, not_true_eq_false, not_false_eq_true, jif0, jif1, jifb, ltT, ltF, leT, leF, eqT, eqF, jlt, jle, jeq, jlt0, jle0, jeq0, jge0, jgt0, jinB, jnat, clt, cle, ceq, cgt, cge, lI_add, lI_sub, lI_mul, jadd, jsub, jmul, jneg, jtol, b010, b011, pv_2t, Int.toNat_natCast, Option.some.injEq, exists_eq_left', if_true, if_false, show gRc 258 = 2 from rfl]
      exact K g f (tg.eq fun u hu => (rv_nx (by omega) e3 e4 hu).symm)
    | succ j ih =>
      intro lo hi g e1 e2 e3 e4 f tg
      by_cases c : (lo : Int) < hi
      · have hg := hm.fi f
        obtain ⟨H, rfl⟩ : ∃ H : Nat, hi = H := ⟨hi.toNat, by omega⟩
        refine vs_ok 3 ?_
        rw [show ((gRes 258).drop 53).take 3 = [.iload 3, .iload 4, .if_icmp .ge 63] from rfl]
        simp (disch := omega) only [vs_if_icmp, vs_iload3, vs_iload4, vs_nil, gv_0, gv_1, gv_2, gv_3, pv_0, pv_1, va_rf_s, Nat.reduceDiv, Nat.reduceMod, Nat.reduceAdd, Nat.reduceMul, Int.reduceToNat, true_and, and_true, and_self, cP_eq, cP_ne, cP_lt, cP_ge, cP_gt, cP_le, eL_i, eL_l, eL_r, eL_n, Option.toList_none, Option.toList_some, List.nil_append, List.cons_append, kkI, llI, nnI, rrI, jjI, kkJ, llJ, nnJ, rrJ, iiJ, zIIs, zJJs, nEF, nET, and_false, false_and, jmin, jmax, catS_n, catS_i, catS_r, catS_l, Nat.reduceLeDiff, j1eq1, n21, jt0, jt1, Bool.false_eq_true, Classical.not_not, true_or, or_true, false_or, or_false, true_imp_iff, false_imp_iff, not_true_eq_false, not_false_eq_true, jif0, jif1, jifb, ltT, ltF, leT, leF, eqT, eqF, jlt, jle, jeq, jlt0, jle0, jeq0, jge0, jgt0, jinB, jnat, clt, cle, ceq, cgt, cge, lI_add, lI_sub, lI_mul, jadd, jsub, jmul, jneg, jtol, b010, b011, pv_2t, Int.toNat_natCast, Option.some.injEq, exists_eq_left', if_true, if_false]
        refine vs_ok 3 ?_
        rw [show ((gRes 258).drop 56).take 3 = [.aload 0, .iload 3, .iload 4] from rfl]
        simp (disch := omega) only [vs_aload0, vs_iload3, vs_iload4, vs_nil, gv_0, gv_1, gv_2, gv_3, pv_0, pv_1, va_rf_s, Nat.reduceDiv, Nat.reduceMod, Nat.reduceAdd, Nat.reduceMul, Int.reduceToNat, true_and, and_true, and_self, cP_eq, cP_ne, cP_lt, cP_ge, cP_gt, cP_le, eL_i, eL_l, eL_r, eL_n, Option.toList_none, Option.toList_some, List.nil_append, List.cons_append, kkI, llI, nnI, rrI, jjI, kkJ, llJ, nnJ, rrJ, iiJ, zIIs, zJJs, nEF, nET, and_false, false_and, jmin, jmax, catS_n, catS_i, catS_r, catS_l, Nat.reduceLeDiff, j1eq1, n21, jt0, jt1, Bool.false_eq_true, Classical.not_not, true_or, or_true, false_or, or_false, true_imp_iff, false_imp_iff, not_true_eq_false, not_false_eq_true, jif0, jif1, jifb, ltT, ltF, leT, leF, eqT, eqF, jlt, jle, jeq, jlt0, jle0, jeq0, jge0, jgt0, jinB, jnat, clt, cle, ceq, cgt, cge, lI_add, lI_sub, lI_mul, jadd, jsub, jmul, jneg, jtol, b010, b011, pv_2t, Int.toNat_natCast, Option.some.injEq, exists_eq_left', if_true, if_false]
        refine PW.iv rfl rfl rfl hg.k.1 hg.k.2 (le_b rfl) (le_b rfl) ?_
        refine t_M_swap hg tg (show lo < L by omega) (show H < L by omega) fun g2 f2 t2 => ⟨rfl, ⟨f2.1.2.2.1, rfl⟩, ?_⟩
        have nx := ih (lo + 1) ((H : Int) + -1) g2 (by omega) (by omega) (by omega) (by omega) (f.tr f2) (t2.eq fun u hu => (rv_s (by omega) e3 (by omega) hu).symm)
        refine vs_ok 3 ?_
        rw [show ((gRes 258).drop 60).take 3 = [.iinc 3 1, .iinc 4 (-1), .goto 53] from rfl]
        simp (disch := omega) only [vs_goto, vs_iinc3n, vs_iinc3i, vs_iinc3r, vs_iinc3l, vs_iinc4n, vs_iinc4i, vs_iinc4r, vs_iinc4l, vs_nil, gv_0, gv_1, gv_2, gv_3, pv_0, pv_1, va_rf_s, Nat.reduceDiv, Nat.reduceMod, Nat.reduceAdd, Nat.reduceMul, Int.reduceToNat, true_and, and_true, and_self, cP_eq, cP_ne, cP_lt, cP_ge, cP_gt, cP_le, eL_i, eL_l, eL_r, eL_n, Option.toList_none, Option.toList_some, List.nil_append, List.cons_append, kkI, llI, nnI, rrI, jjI, kkJ, llJ, nnJ, rrJ, iiJ, zIIs, zJJs, nEF, nET, and_false, false_and, jmin, jmax, catS_n, catS_i, catS_r, catS_l, Nat.reduceLeDiff, j1eq1, n21, jt0, jt1, Bool.false_eq_true, Classical.not_not, true_or, or_true, false_or, or_false, true_imp_iff, false_imp_iff, not_true_eq_false, not_false_eq_true, jif0, jif1, jifb, ltT, ltF, leT, leF, eqT, eqF, jlt, jle, jeq, jlt0, jle0, jeq0, jge0, jgt0, jinB, jnat, clt, cle, ceq, cgt, cge, lI_add, lI_sub, lI_mul, jadd, jsub, jmul, jneg, jtol, b010, b011, pv_2t, Int.toNat_natCast, Option.some.injEq, exists_eq_left', if_true, if_false]
        exact nx
      · refine vs_ok 3 ?_
        rw [show ((gRes 258).drop 53).take 3 = [.iload 3, .iload 4, .if_icmp .ge 63] from rfl]
        simp (disch := omega) only [vs_if_icmp, vs_iload3, vs_iload4, vs_nil, gv_0, gv_1, gv_2, gv_3, pv_0, pv_1, va_rf_s, Nat.reduceDiv, Nat.reduceMod, Nat.reduceAdd, Nat.reduceMul, Int.reduceToNat, true_and, and_true, and_self, cP_eq, cP_ne, cP_lt, cP_ge, cP_gt, cP_le, eL_i, eL_l, eL_r, eL_n, Option.toList_none, Option.toList_some, List.nil_append, List.cons_append, kkI, llI, nnI, rrI, jjI, kkJ, llJ, nnJ, rrJ, iiJ, zIIs, zJJs, nEF, nET, and_false, false_and, jmin, jmax, catS_n, catS_i, catS_r, catS_l, Nat.reduceLeDiff, j1eq1, n21, jt0, jt1, Bool.false_eq_true, Classical.not_not, true_or, or_true, false_or, or_false, true_imp_iff, false_imp_iff, not_true_eq_false, not_false_eq_true, jif0, jif1, jifb, ltT, ltF, leT, leF, eqT, eqF, jlt, jle, jeq, jlt0, jle0, jeq0, jge0, jgt0, jinB, jnat, clt, cle, ceq, cgt, cge, lI_add, lI_sub, lI_mul, jadd, jsub, jmul, jneg, jtol, b010, b011, pv_2t, Int.toNat_natCast, Option.some.injEq, exists_eq_left', if_true, if_false]
        refine vs_ok 2 ?_
        rw [show ((gRes 258).drop 63).take 2 = [.iconst 1, .ireturn] from rfl]
        simp (disch := omega) only [vs_iconst, vs_ireturn, vs_nil, gv_0, gv_1, gv_2, gv_3, pv_0, pv_1, va_rf_s, Nat.reduceDiv, Nat.reduceMod, Nat.reduceAdd, Nat.reduceMul, Int.reduceToNat, true_and, and_true, and_self, cP_eq, cP_ne, cP_lt, cP_ge, cP_gt, cP_le, eL_i, eL_l, eL_r, eL_n, Option.toList_none, Option.toList_some, List.nil_append, List.cons_append, kkI, llI, nnI, rrI, jjI, kkJ, llJ, nnJ, rrJ, iiJ, zIIs, zJJs, nEF, nET, and_false, false_and, jmin, jmax, catS_n, catS_i, catS_r, catS_l, Nat.reduceLeDiff, j1eq1, n21, jt0, jt1, Bool.false_eq_true, Classical.not_not, true_or, or_true, false_or, or_false, true_imp_iff, false_imp_iff, not_true_eq_false, not_false_eq_true, jif0, jif1, jifb, ltT, ltF, leT, leF, eqT, eqF, jlt, jle, jeq, jlt0, jle0, jeq0, jge0, jgt0, jinB, jnat, clt, cle, ceq, cgt, cge, lI_add, lI_sub, lI_mul, jadd, jsub, jmul, jneg, jtol, b010, b011, pv_2t, Int.toNat_natCast, Option.some.injEq, exists_eq_left', if_true, if_false, show gRc 258 = 2 from rfl]
        exact K g f (tg.eq fun u hu => (rv_nx (by omega) e3 e4 hu).symm)
  -- the last letter that is greater than i's
  have l29 : ∀ (i : Nat), i + 1 < L → w i < w (i + 1) → (∀ k, i < k → k < L → w i < w k → (∀ j, k < j → j < L → ¬ w i < w j) → ∀ g, fi (fun q => q = m + 27) h g → ltS g m L (nxW w i k L) → Q 0 (some (.int (iI 1))) g) → ∀ (j k : Nat), k = i + 1 + j → k < L → (∀ u, k < u → u < L → ¬ w i < w u) → PW (d + 1) 258 29 [some (.ref m), some (.int (iI i)), some (.int (iI k)), none, none] [] h Q := by
    intro i hi1 hi2 K j
    induction j with
    | zero =>
      intro k hk hkL hA
      have vk := t.2.2 k hkL
      have vi := t.2.2 i (by omega)
      have lt : w i < w k := by rw [hk]; exact hi2
      refine vs_ok 9 ?_
      rw [show ((gRes 258).drop 29).take 9 = [.aload 0, .getfield 12452, .iload 2, .iaload, .aload 0, .getfield 12452, .iload 1, .iaload, .if_icmp .gt 40] from rfl]
      simp (disch := omega) only [vs_if_icmp, vs_getfield, vs_iaload, vs_aload0, vs_iload1, vs_iload2, vs_nil, gv_0, gv_1, gv_2, gv_3, pv_0, pv_1, va_rf_s, Nat.reduceDiv, Nat.reduceMod, Nat.reduceAdd, Nat.reduceMul, Int.reduceToNat, true_and, and_true, and_self, cP_eq, cP_ne, cP_lt, cP_ge, cP_gt, cP_le, eL_i, eL_l, eL_r, eL_n, Option.toList_none, Option.toList_some, List.nil_append, List.cons_append, kkI, llI, nnI, rrI, jjI, kkJ, llJ, nnJ, rrJ, iiJ, zIIs, zJJs, nEF, nET, and_false, false_and, jmin, jmax, catS_n, catS_i, catS_r, catS_l, Nat.reduceLeDiff, j1eq1, n21, jt0, jt1, Bool.false_eq_true, Classical.not_not, true_or, or_true, false_or, or_false, true_imp_iff, false_imp_iff, not_true_eq_false, not_false_eq_true, jif0, jif1, jifb, ltT, ltF, leT, leF, eqT, eqF, jlt, jle, jeq, jlt0, jle0, jeq0, jge0, jgt0, jinB, jnat, clt, cle, ceq, cgt, cge, lI_add, lI_sub, lI_mul, jadd, jsub, jmul, jneg, jtol, b010, b011, pv_2t, Int.toNat_natCast, Option.some.injEq, exists_eq_left', if_true, if_false, M, A, vk.2, vi.2]
      refine vs_ok 3 ?_
      rw [show ((gRes 258).drop 40).take 3 = [.aload 0, .iload 1, .iload 2] from rfl]
      simp (disch := omega) only [vs_aload0, vs_iload1, vs_iload2, vs_nil, gv_0, gv_1, gv_2, gv_3, pv_0, pv_1, va_rf_s, Nat.reduceDiv, Nat.reduceMod, Nat.reduceAdd, Nat.reduceMul, Int.reduceToNat, true_and, and_true, and_self, cP_eq, cP_ne, cP_lt, cP_ge, cP_gt, cP_le, eL_i, eL_l, eL_r, eL_n, Option.toList_none, Option.toList_some, List.nil_append, List.cons_append, kkI, llI, nnI, rrI, jjI, kkJ, llJ, nnJ, rrJ, iiJ, zIIs, zJJs, nEF, nET, and_false, false_and, jmin, jmax, catS_n, catS_i, catS_r, catS_l, Nat.reduceLeDiff, j1eq1, n21, jt0, jt1, Bool.false_eq_true, Classical.not_not, true_or, or_true, false_or, or_false, true_imp_iff, false_imp_iff, not_true_eq_false, not_false_eq_true, jif0, jif1, jifb, ltT, ltF, leT, leF, eqT, eqF, jlt, jle, jeq, jlt0, jle0, jeq0, jge0, jgt0, jinB, jnat, clt, cle, ceq, cgt, cge, lI_add, lI_sub, lI_mul, jadd, jsub, jmul, jneg, jtol, b010, b011, pv_2t, Int.toNat_natCast, Option.some.injEq, exists_eq_left', if_true, if_false]
      refine PW.iv rfl rfl rfl M.1 M.2 (le_b rfl) (le_b rfl) ?_
      refine t_M_swap hm t (show i < L by omega) hkL fun g2 f2 t2 => ⟨rfl, ⟨f2.1.2.2.1, rfl⟩, ?_⟩
      have M2 := (hm.fi f2).k
      have x52 := t2.1
      refine vs_ok 9 ?_
      rw [show ((gRes 258).drop 44).take 9 = [.iload 1, .iconst 1, .iadd, .istore 3, .aload 0, .getfield 12520, .iconst 1, .isub, .istore 4] from rfl]
      simp (disch := omega) only [vs_iadd, vs_isub, vs_iconst, vs_getfield, vs_aload0, vs_iload1, vs_istore3n, vs_istore3i, vs_istore3r, vs_istore3l, vs_istore4n, vs_istore4i, vs_istore4r, vs_istore4l, vs_nil, gv_0, gv_1, gv_2, gv_3, pv_0, pv_1, va_rf_s, Nat.reduceDiv, Nat.reduceMod, Nat.reduceAdd, Nat.reduceMul, Int.reduceToNat, true_and, and_true, and_self, cP_eq, cP_ne, cP_lt, cP_ge, cP_gt, cP_le, eL_i, eL_l, eL_r, eL_n, Option.toList_none, Option.toList_some, List.nil_append, List.cons_append, kkI, llI, nnI, rrI, jjI, kkJ, llJ, nnJ, rrJ, iiJ, zIIs, zJJs, nEF, nET, and_false, false_and, jmin, jmax, catS_n, catS_i, catS_r, catS_l, Nat.reduceLeDiff, j1eq1, n21, jt0, jt1, Bool.false_eq_true, Classical.not_not, true_or, or_true, false_or, or_false, true_imp_iff, false_imp_iff, not_true_eq_false, not_false_eq_true, jif0, jif1, jifb, ltT, ltF, leT, leF, eqT, eqF, jlt, jle, jeq, jlt0, jle0, jeq0, jge0, jgt0, jinB, jnat, clt, cle, ceq, cgt, cge, lI_add, lI_sub, lI_mul, jadd, jsub, jmul, jneg, jtol, b010, b011, pv_2t, Int.toNat_natCast, Option.some.injEq, exists_eq_left', if_true, if_false, M2, x52]
      have := l53 i k hi1 (K k (by omega) hkL lt hA) L (i + 1) ((L : Int) - 1) g2 (by omega) (by omega) (by omega) (by omega) f2 (t2.eq fun u hu => rv_0 hi1 hu)
      exact this
    | succ j ih =>
      intro k hk hkL hA
      have vk := t.2.2 k hkL
      have vi := t.2.2 i (by omega)
      by_cases c : w i < w k
      · refine vs_ok 9 ?_
        rw [show ((gRes 258).drop 29).take 9 = [.aload 0, .getfield 12452, .iload 2, .iaload, .aload 0, .getfield 12452, .iload 1, .iaload, .if_icmp .gt 40] from rfl]
        simp (disch := omega) only [vs_if_icmp, vs_getfield, vs_iaload, vs_aload0, vs_iload1, vs_iload2, vs_nil, gv_0, gv_1, gv_2, gv_3, pv_0, pv_1, va_rf_s, Nat.reduceDiv, Nat.reduceMod, Nat.reduceAdd, Nat.reduceMul, Int.reduceToNat, true_and, and_true, and_self, cP_eq, cP_ne, cP_lt, cP_ge, cP_gt, cP_le, eL_i, eL_l, eL_r, eL_n, Option.toList_none, Option.toList_some, List.nil_append, List.cons_append, kkI, llI, nnI, rrI, jjI, kkJ, llJ, nnJ, rrJ, iiJ, zIIs, zJJs, nEF, nET, and_false, false_and, jmin, jmax, catS_n, catS_i, catS_r, catS_l, Nat.reduceLeDiff, j1eq1, n21, jt0, jt1, Bool.false_eq_true, Classical.not_not, true_or, or_true, false_or, or_false, true_imp_iff, false_imp_iff, not_true_eq_false, not_false_eq_true, jif0, jif1, jifb, ltT, ltF, leT, leF, eqT, eqF, jlt, jle, jeq, jlt0, jle0, jeq0, jge0, jgt0, jinB, jnat, clt, cle, ceq, cgt, cge, lI_add, lI_sub, lI_mul, jadd, jsub, jmul, jneg, jtol, b010, b011, pv_2t, Int.toNat_natCast, Option.some.injEq, exists_eq_left', if_true, if_false, M, A, vk.2, vi.2]
        refine vs_ok 3 ?_
        rw [show ((gRes 258).drop 40).take 3 = [.aload 0, .iload 1, .iload 2] from rfl]
        simp (disch := omega) only [vs_aload0, vs_iload1, vs_iload2, vs_nil, gv_0, gv_1, gv_2, gv_3, pv_0, pv_1, va_rf_s, Nat.reduceDiv, Nat.reduceMod, Nat.reduceAdd, Nat.reduceMul, Int.reduceToNat, true_and, and_true, and_self, cP_eq, cP_ne, cP_lt, cP_ge, cP_gt, cP_le, eL_i, eL_l, eL_r, eL_n, Option.toList_none, Option.toList_some, List.nil_append, List.cons_append, kkI, llI, nnI, rrI, jjI, kkJ, llJ, nnJ, rrJ, iiJ, zIIs, zJJs, nEF, nET, and_false, false_and, jmin, jmax, catS_n, catS_i, catS_r, catS_l, Nat.reduceLeDiff, j1eq1, n21, jt0, jt1, Bool.false_eq_true, Classical.not_not, true_or, or_true, false_or, or_false, true_imp_iff, false_imp_iff, not_true_eq_false, not_false_eq_true, jif0, jif1, jifb, ltT, ltF, leT, leF, eqT, eqF, jlt, jle, jeq, jlt0, jle0, jeq0, jge0, jgt0, jinB, jnat, clt, cle, ceq, cgt, cge, lI_add, lI_sub, lI_mul, jadd, jsub, jmul, jneg, jtol, b010, b011, pv_2t, Int.toNat_natCast, Option.some.injEq, exists_eq_left', if_true, if_false]
        refine PW.iv rfl rfl rfl M.1 M.2 (le_b rfl) (le_b rfl) ?_
        refine t_M_swap hm t (show i < L by omega) hkL fun g2 f2 t2 => ⟨rfl, ⟨f2.1.2.2.1, rfl⟩, ?_⟩
        have M2 := (hm.fi f2).k
        have x52 := t2.1
        refine vs_ok 9 ?_
        rw [show ((gRes 258).drop 44).take 9 = [.iload 1, .iconst 1, .iadd, .istore 3, .aload 0, .getfield 12520, .iconst 1, .isub, .istore 4] from rfl]
        simp (disch := omega) only [vs_iadd, vs_isub, vs_iconst, vs_getfield, vs_aload0, vs_iload1, vs_istore3n, vs_istore3i, vs_istore3r, vs_istore3l, vs_istore4n, vs_istore4i, vs_istore4r, vs_istore4l, vs_nil, gv_0, gv_1, gv_2, gv_3, pv_0, pv_1, va_rf_s, Nat.reduceDiv, Nat.reduceMod, Nat.reduceAdd, Nat.reduceMul, Int.reduceToNat, true_and, and_true, and_self, cP_eq, cP_ne, cP_lt, cP_ge, cP_gt, cP_le, eL_i, eL_l, eL_r, eL_n, Option.toList_none, Option.toList_some, List.nil_append, List.cons_append, kkI, llI, nnI, rrI, jjI, kkJ, llJ, nnJ, rrJ, iiJ, zIIs, zJJs, nEF, nET, and_false, false_and, jmin, jmax, catS_n, catS_i, catS_r, catS_l, Nat.reduceLeDiff, j1eq1, n21, jt0, jt1, Bool.false_eq_true, Classical.not_not, true_or, or_true, false_or, or_false, true_imp_iff, false_imp_iff, not_true_eq_false, not_false_eq_true, jif0, jif1, jifb, ltT, ltF, leT, leF, eqT, eqF, jlt, jle, jeq, jlt0, jle0, jeq0, jge0, jgt0, jinB, jnat, clt, cle, ceq, cgt, cge, lI_add, lI_sub, lI_mul, jadd, jsub, jmul, jneg, jtol, b010, b011, pv_2t, Int.toNat_natCast, Option.some.injEq, exists_eq_left', if_true, if_false, M2, x52]
        have := l53 i k hi1 (K k (by omega) hkL c hA) L (i + 1) ((L : Int) - 1) g2 (by omega) (by omega) (by omega) (by omega) f2 (t2.eq fun u hu => rv_0 hi1 hu)
        exact this
      · have e : (k : Int) + -1 = ((k - 1 : Nat) : Int) := by omega
        refine vs_ok 9 ?_
        rw [show ((gRes 258).drop 29).take 9 = [.aload 0, .getfield 12452, .iload 2, .iaload, .aload 0, .getfield 12452, .iload 1, .iaload, .if_icmp .gt 40] from rfl]
        simp (disch := omega) only [vs_if_icmp, vs_getfield, vs_iaload, vs_aload0, vs_iload1, vs_iload2, vs_nil, gv_0, gv_1, gv_2, gv_3, pv_0, pv_1, va_rf_s, Nat.reduceDiv, Nat.reduceMod, Nat.reduceAdd, Nat.reduceMul, Int.reduceToNat, true_and, and_true, and_self, cP_eq, cP_ne, cP_lt, cP_ge, cP_gt, cP_le, eL_i, eL_l, eL_r, eL_n, Option.toList_none, Option.toList_some, List.nil_append, List.cons_append, kkI, llI, nnI, rrI, jjI, kkJ, llJ, nnJ, rrJ, iiJ, zIIs, zJJs, nEF, nET, and_false, false_and, jmin, jmax, catS_n, catS_i, catS_r, catS_l, Nat.reduceLeDiff, j1eq1, n21, jt0, jt1, Bool.false_eq_true, Classical.not_not, true_or, or_true, false_or, or_false, true_imp_iff, false_imp_iff, not_true_eq_false, not_false_eq_true, jif0, jif1, jifb, ltT, ltF, leT, leF, eqT, eqF, jlt, jle, jeq, jlt0, jle0, jeq0, jge0, jgt0, jinB, jnat, clt, cle, ceq, cgt, cge, lI_add, lI_sub, lI_mul, jadd, jsub, jmul, jneg, jtol, b010, b011, pv_2t, Int.toNat_natCast, Option.some.injEq, exists_eq_left', if_true, if_false, M, A, vk.2, vi.2]
        refine vs_ok 2 ?_
        rw [show ((gRes 258).drop 38).take 2 = [.iinc 2 (-1), .goto 29] from rfl]
        simp (disch := omega) only [vs_goto, vs_iinc2n, vs_iinc2i, vs_iinc2r, vs_iinc2l, vs_nil, gv_0, gv_1, gv_2, gv_3, pv_0, pv_1, va_rf_s, Nat.reduceDiv, Nat.reduceMod, Nat.reduceAdd, Nat.reduceMul, Int.reduceToNat, true_and, and_true, and_self, cP_eq, cP_ne, cP_lt, cP_ge, cP_gt, cP_le, eL_i, eL_l, eL_r, eL_n, Option.toList_none, Option.toList_some, List.nil_append, List.cons_append, kkI, llI, nnI, rrI, jjI, kkJ, llJ, nnJ, rrJ, iiJ, zIIs, zJJs, nEF, nET, and_false, false_and, jmin, jmax, catS_n, catS_i, catS_r, catS_l, Nat.reduceLeDiff, j1eq1, n21, jt0, jt1, Bool.false_eq_true, Classical.not_not, true_or, or_true, false_or, or_false, true_imp_iff, false_imp_iff, not_true_eq_false, not_false_eq_true, jif0, jif1, jifb, ltT, ltF, leT, leF, eqT, eqF, jlt, jle, jeq, jlt0, jle0, jeq0, jge0, jgt0, jinB, jnat, clt, cle, ceq, cgt, cge, lI_add, lI_sub, lI_mul, jadd, jsub, jmul, jneg, jtol, b010, b011, pv_2t, Int.toNat_natCast, Option.some.injEq, exists_eq_left', if_true, if_false, e]
        exact ih (k - 1) (by omega) (by omega) fun u h1 h2 => by
          by_cases y : u = k
          · rw [y]; exact c
          · exact hA u (by omega) h2
  have l5 : ∀ (j : Nat), j + 1 ≤ L → (∀ u, j ≤ u → u + 1 < L → ¬ w u < w (u + 1)) → PW (d + 1) 258 5 [some (.ref m), some (.int (iI ((j : Int) - 1))), none, none, none] [] h Q := by
    intro j
    induction j with
    | zero =>
      intro hj hA
      refine vs_ok 2 ?_
      rw [show ((gRes 258).drop 5).take 2 = [.iload 1, .ifCond .lt 20] from rfl]
      simp (disch := omega) only [vs_ifCond, vs_iload1, vs_nil, gv_0, gv_1, gv_2, gv_3, pv_0, pv_1, va_rf_s, Nat.reduceDiv, Nat.reduceMod, Nat.reduceAdd, Nat.reduceMul, Int.reduceToNat, true_and, and_true, and_self, cP_eq, cP_ne, cP_lt, cP_ge, cP_gt, cP_le, eL_i, eL_l, eL_r, eL_n, Option.toList_none, Option.toList_some, List.nil_append, List.cons_append, kkI, llI, nnI, rrI, jjI, kkJ, llJ, nnJ, rrJ, iiJ, zIIs, zJJs, nEF, nET, and_false, false_and, jmin, jmax, catS_n, catS_i, catS_r, catS_l, Nat.reduceLeDiff, j1eq1, n21, jt0, jt1, Bool.false_eq_true, Classical.not_not, true_or, or_true, false_or, or_false, true_imp_iff, false_imp_iff, not_true_eq_false, not_false_eq_true, jif0, jif1, jifb, ltT, ltF, leT, leF, eqT, eqF, jlt, jle, jeq, jlt0, jle0, jeq0, jge0, jgt0, jinB, jnat, clt, cle, ceq, cgt, cge, lI_add, lI_sub, lI_mul, jadd, jsub, jmul, jneg, jtol, b010, b011, pv_2t, Int.toNat_natCast, Option.some.injEq, exists_eq_left', if_true, if_false]
      refine vs_ok 2 ?_
      rw [show ((gRes 258).drop 20).take 2 = [.iload 1, .ifCond .ge 24] from rfl]
      simp (disch := omega) only [vs_ifCond, vs_iload1, vs_nil, gv_0, gv_1, gv_2, gv_3, pv_0, pv_1, va_rf_s, Nat.reduceDiv, Nat.reduceMod, Nat.reduceAdd, Nat.reduceMul, Int.reduceToNat, true_and, and_true, and_self, cP_eq, cP_ne, cP_lt, cP_ge, cP_gt, cP_le, eL_i, eL_l, eL_r, eL_n, Option.toList_none, Option.toList_some, List.nil_append, List.cons_append, kkI, llI, nnI, rrI, jjI, kkJ, llJ, nnJ, rrJ, iiJ, zIIs, zJJs, nEF, nET, and_false, false_and, jmin, jmax, catS_n, catS_i, catS_r, catS_l, Nat.reduceLeDiff, j1eq1, n21, jt0, jt1, Bool.false_eq_true, Classical.not_not, true_or, or_true, false_or, or_false, true_imp_iff, false_imp_iff, not_true_eq_false, not_false_eq_true, jif0, jif1, jifb, ltT, ltF, leT, leF, eqT, eqF, jlt, jle, jeq, jlt0, jle0, jeq0, jge0, jgt0, jinB, jnat, clt, cle, ceq, cgt, cge, lI_add, lI_sub, lI_mul, jadd, jsub, jmul, jneg, jtol, b010, b011, pv_2t, Int.toNat_natCast, Option.some.injEq, exists_eq_left', if_true, if_false]
      refine vs_ok 2 ?_
      rw [show ((gRes 258).drop 22).take 2 = [.iconst 0, .ireturn] from rfl]
      simp (disch := omega) only [vs_iconst, vs_ireturn, vs_nil, gv_0, gv_1, gv_2, gv_3, pv_0, pv_1, va_rf_s, Nat.reduceDiv, Nat.reduceMod, Nat.reduceAdd, Nat.reduceMul, Int.reduceToNat, true_and, and_true, and_self, cP_eq, cP_ne, cP_lt, cP_ge, cP_gt, cP_le, eL_i, eL_l, eL_r, eL_n, Option.toList_none, Option.toList_some, List.nil_append, List.cons_append, kkI, llI, nnI, rrI, jjI, kkJ, llJ, nnJ, rrJ, iiJ, zIIs, zJJs, nEF, nET, and_false, false_and, jmin, jmax, catS_n, catS_i, catS_r, catS_l, Nat.reduceLeDiff, j1eq1, n21, jt0, jt1, Bool.false_eq_true, Classical.not_not, true_or, or_true, false_or, or_false, true_imp_iff, false_imp_iff, not_true_eq_false, not_false_eq_true, jif0, jif1, jifb, ltT, ltF, leT, leF, eqT, eqF, jlt, jle, jeq, jlt0, jle0, jeq0, jge0, jgt0, jinB, jnat, clt, cle, ceq, cgt, cge, lI_add, lI_sub, lI_mul, jadd, jsub, jmul, jneg, jtol, b010, b011, pv_2t, Int.toNat_natCast, Option.some.injEq, exists_eq_left', if_true, if_false, show gRc 258 = 2 from rfl]
      exact hq0 fun i hi => hA i (by omega) hi
    | succ j ih =>
      intro hj hA
      have e0 : (((j + 1 : Nat) : Int) - 1) = (j : Int) := by omega
      have v1 := t.2.2 j (by omega)
      have v2 := t.2.2 (j + 1) (by omega)
      have e1 : (j : Int) + 1 = ((j + 1 : Nat) : Int) := by omega
      rw [e0]
      by_cases c : w j < w (j + 1)
      · have e2 : (L : Int) - 1 = ((L - 1 : Nat) : Int) := by omega
        have := l29 j (by omega) c (fun k a b c2 e g f tt => hq1 j k (by omega) c (fun u h1 h2 => hA u (by omega) h2) a b c2 e g f tt) (L - 1 - (j + 1)) (L - 1) (by omega) (by omega) fun u h1 h2 => absurd h2 (by omega)
        refine vs_ok 2 ?_
        rw [show ((gRes 258).drop 5).take 2 = [.iload 1, .ifCond .lt 20] from rfl]
        simp (disch := omega) only [vs_ifCond, vs_iload1, vs_nil, gv_0, gv_1, gv_2, gv_3, pv_0, pv_1, va_rf_s, Nat.reduceDiv, Nat.reduceMod, Nat.reduceAdd, Nat.reduceMul, Int.reduceToNat, true_and, and_true, and_self, cP_eq, cP_ne, cP_lt, cP_ge, cP_gt, cP_le, eL_i, eL_l, eL_r, eL_n, Option.toList_none, Option.toList_some, List.nil_append, List.cons_append, kkI, llI, nnI, rrI, jjI, kkJ, llJ, nnJ, rrJ, iiJ, zIIs, zJJs, nEF, nET, and_false, false_and, jmin, jmax, catS_n, catS_i, catS_r, catS_l, Nat.reduceLeDiff, j1eq1, n21, jt0, jt1, Bool.false_eq_true, Classical.not_not, true_or, or_true, false_or, or_false, true_imp_iff, false_imp_iff, not_true_eq_false, not_false_eq_true, jif0, jif1, jifb, ltT, ltF, leT, leF, eqT, eqF, jlt, jle, jeq, jlt0, jle0, jeq0, jge0, jgt0, jinB, jnat, clt, cle, ceq, cgt, cge, lI_add, lI_sub, lI_mul, jadd, jsub, jmul, jneg, jtol, b010, b011, pv_2t, Int.toNat_natCast, Option.some.injEq, exists_eq_left', if_true, if_false]
        refine vs_ok 11 ?_
        rw [show ((gRes 258).drop 7).take 11 = [.aload 0, .getfield 12452, .iload 1, .iaload, .aload 0, .getfield 12452, .iload 1, .iconst 1, .iadd, .iaload, .if_icmp .lt 20] from rfl]
        simp (disch := omega) only [vs_iadd, vs_iconst, vs_if_icmp, vs_getfield, vs_iaload, vs_aload0, vs_iload1, vs_nil, gv_0, gv_1, gv_2, gv_3, pv_0, pv_1, va_rf_s, Nat.reduceDiv, Nat.reduceMod, Nat.reduceAdd, Nat.reduceMul, Int.reduceToNat, true_and, and_true, and_self, cP_eq, cP_ne, cP_lt, cP_ge, cP_gt, cP_le, eL_i, eL_l, eL_r, eL_n, Option.toList_none, Option.toList_some, List.nil_append, List.cons_append, kkI, llI, nnI, rrI, jjI, kkJ, llJ, nnJ, rrJ, iiJ, zIIs, zJJs, nEF, nET, and_false, false_and, jmin, jmax, catS_n, catS_i, catS_r, catS_l, Nat.reduceLeDiff, j1eq1, n21, jt0, jt1, Bool.false_eq_true, Classical.not_not, true_or, or_true, false_or, or_false, true_imp_iff, false_imp_iff, not_true_eq_false, not_false_eq_true, jif0, jif1, jifb, ltT, ltF, leT, leF, eqT, eqF, jlt, jle, jeq, jlt0, jle0, jeq0, jge0, jgt0, jinB, jnat, clt, cle, ceq, cgt, cge, lI_add, lI_sub, lI_mul, jadd, jsub, jmul, jneg, jtol, b010, b011, pv_2t, Int.toNat_natCast, Option.some.injEq, exists_eq_left', if_true, if_false, M, A, v1.2, e1, v2.2]
        refine vs_ok 2 ?_
        rw [show ((gRes 258).drop 20).take 2 = [.iload 1, .ifCond .ge 24] from rfl]
        simp (disch := omega) only [vs_ifCond, vs_iload1, vs_nil, gv_0, gv_1, gv_2, gv_3, pv_0, pv_1, va_rf_s, Nat.reduceDiv, Nat.reduceMod, Nat.reduceAdd, Nat.reduceMul, Int.reduceToNat, true_and, and_true, and_self, cP_eq, cP_ne, cP_lt, cP_ge, cP_gt, cP_le, eL_i, eL_l, eL_r, eL_n, Option.toList_none, Option.toList_some, List.nil_append, List.cons_append, kkI, llI, nnI, rrI, jjI, kkJ, llJ, nnJ, rrJ, iiJ, zIIs, zJJs, nEF, nET, and_false, false_and, jmin, jmax, catS_n, catS_i, catS_r, catS_l, Nat.reduceLeDiff, j1eq1, n21, jt0, jt1, Bool.false_eq_true, Classical.not_not, true_or, or_true, false_or, or_false, true_imp_iff, false_imp_iff, not_true_eq_false, not_false_eq_true, jif0, jif1, jifb, ltT, ltF, leT, leF, eqT, eqF, jlt, jle, jeq, jlt0, jle0, jeq0, jge0, jgt0, jinB, jnat, clt, cle, ceq, cgt, cge, lI_add, lI_sub, lI_mul, jadd, jsub, jmul, jneg, jtol, b010, b011, pv_2t, Int.toNat_natCast, Option.some.injEq, exists_eq_left', if_true, if_false]
        refine vs_ok 5 ?_
        rw [show ((gRes 258).drop 24).take 5 = [.aload 0, .getfield 12520, .iconst 1, .isub, .istore 2] from rfl]
        simp (disch := omega) only [vs_isub, vs_iconst, vs_getfield, vs_aload0, vs_istore2n, vs_istore2i, vs_istore2r, vs_istore2l, vs_nil, gv_0, gv_1, gv_2, gv_3, pv_0, pv_1, va_rf_s, Nat.reduceDiv, Nat.reduceMod, Nat.reduceAdd, Nat.reduceMul, Int.reduceToNat, true_and, and_true, and_self, cP_eq, cP_ne, cP_lt, cP_ge, cP_gt, cP_le, eL_i, eL_l, eL_r, eL_n, Option.toList_none, Option.toList_some, List.nil_append, List.cons_append, kkI, llI, nnI, rrI, jjI, kkJ, llJ, nnJ, rrJ, iiJ, zIIs, zJJs, nEF, nET, and_false, false_and, jmin, jmax, catS_n, catS_i, catS_r, catS_l, Nat.reduceLeDiff, j1eq1, n21, jt0, jt1, Bool.false_eq_true, Classical.not_not, true_or, or_true, false_or, or_false, true_imp_iff, false_imp_iff, not_true_eq_false, not_false_eq_true, jif0, jif1, jifb, ltT, ltF, leT, leF, eqT, eqF, jlt, jle, jeq, jlt0, jle0, jeq0, jge0, jgt0, jinB, jnat, clt, cle, ceq, cgt, cge, lI_add, lI_sub, lI_mul, jadd, jsub, jmul, jneg, jtol, b010, b011, pv_2t, Int.toNat_natCast, Option.some.injEq, exists_eq_left', if_true, if_false, M, h52, e2]
        exact this
      · have := ih (by omega) fun u h1 h2 => by
          by_cases y : u = j
          · rw [y]; exact c
          · exact hA u (by omega) h2
        refine vs_ok 2 ?_
        rw [show ((gRes 258).drop 5).take 2 = [.iload 1, .ifCond .lt 20] from rfl]
        simp (disch := omega) only [vs_ifCond, vs_iload1, vs_nil, gv_0, gv_1, gv_2, gv_3, pv_0, pv_1, va_rf_s, Nat.reduceDiv, Nat.reduceMod, Nat.reduceAdd, Nat.reduceMul, Int.reduceToNat, true_and, and_true, and_self, cP_eq, cP_ne, cP_lt, cP_ge, cP_gt, cP_le, eL_i, eL_l, eL_r, eL_n, Option.toList_none, Option.toList_some, List.nil_append, List.cons_append, kkI, llI, nnI, rrI, jjI, kkJ, llJ, nnJ, rrJ, iiJ, zIIs, zJJs, nEF, nET, and_false, false_and, jmin, jmax, catS_n, catS_i, catS_r, catS_l, Nat.reduceLeDiff, j1eq1, n21, jt0, jt1, Bool.false_eq_true, Classical.not_not, true_or, or_true, false_or, or_false, true_imp_iff, false_imp_iff, not_true_eq_false, not_false_eq_true, jif0, jif1, jifb, ltT, ltF, leT, leF, eqT, eqF, jlt, jle, jeq, jlt0, jle0, jeq0, jge0, jgt0, jinB, jnat, clt, cle, ceq, cgt, cge, lI_add, lI_sub, lI_mul, jadd, jsub, jmul, jneg, jtol, b010, b011, pv_2t, Int.toNat_natCast, Option.some.injEq, exists_eq_left', if_true, if_false]
        refine vs_ok 11 ?_
        rw [show ((gRes 258).drop 7).take 11 = [.aload 0, .getfield 12452, .iload 1, .iaload, .aload 0, .getfield 12452, .iload 1, .iconst 1, .iadd, .iaload, .if_icmp .lt 20] from rfl]
        simp (disch := omega) only [vs_iadd, vs_iconst, vs_if_icmp, vs_getfield, vs_iaload, vs_aload0, vs_iload1, vs_nil, gv_0, gv_1, gv_2, gv_3, pv_0, pv_1, va_rf_s, Nat.reduceDiv, Nat.reduceMod, Nat.reduceAdd, Nat.reduceMul, Int.reduceToNat, true_and, and_true, and_self, cP_eq, cP_ne, cP_lt, cP_ge, cP_gt, cP_le, eL_i, eL_l, eL_r, eL_n, Option.toList_none, Option.toList_some, List.nil_append, List.cons_append, kkI, llI, nnI, rrI, jjI, kkJ, llJ, nnJ, rrJ, iiJ, zIIs, zJJs, nEF, nET, and_false, false_and, jmin, jmax, catS_n, catS_i, catS_r, catS_l, Nat.reduceLeDiff, j1eq1, n21, jt0, jt1, Bool.false_eq_true, Classical.not_not, true_or, or_true, false_or, or_false, true_imp_iff, false_imp_iff, not_true_eq_false, not_false_eq_true, jif0, jif1, jifb, ltT, ltF, leT, leF, eqT, eqF, jlt, jle, jeq, jlt0, jle0, jeq0, jge0, jgt0, jinB, jnat, clt, cle, ceq, cgt, cge, lI_add, lI_sub, lI_mul, jadd, jsub, jmul, jneg, jtol, b010, b011, pv_2t, Int.toNat_natCast, Option.some.injEq, exists_eq_left', if_true, if_false, M, A, v1.2, e1, v2.2]
        refine vs_ok 2 ?_
        rw [show ((gRes 258).drop 18).take 2 = [.iinc 1 (-1), .goto 5] from rfl]
        simp (disch := omega) only [vs_goto, vs_iinc1n, vs_iinc1i, vs_iinc1r, vs_iinc1l, vs_nil, gv_0, gv_1, gv_2, gv_3, pv_0, pv_1, va_rf_s, Nat.reduceDiv, Nat.reduceMod, Nat.reduceAdd, Nat.reduceMul, Int.reduceToNat, true_and, and_true, and_self, cP_eq, cP_ne, cP_lt, cP_ge, cP_gt, cP_le, eL_i, eL_l, eL_r, eL_n, Option.toList_none, Option.toList_some, List.nil_append, List.cons_append, kkI, llI, nnI, rrI, jjI, kkJ, llJ, nnJ, rrJ, iiJ, zIIs, zJJs, nEF, nET, and_false, false_and, jmin, jmax, catS_n, catS_i, catS_r, catS_l, Nat.reduceLeDiff, j1eq1, n21, jt0, jt1, Bool.false_eq_true, Classical.not_not, true_or, or_true, false_or, or_false, true_imp_iff, false_imp_iff, not_true_eq_false, not_false_eq_true, jif0, jif1, jifb, ltT, ltF, leT, leF, eqT, eqF, jlt, jle, jeq, jlt0, jle0, jeq0, jge0, jgt0, jinB, jnat, clt, cle, ceq, cgt, cge, lI_add, lI_sub, lI_mul, jadd, jsub, jmul, jneg, jtol, b010, b011, pv_2t, Int.toNat_natCast, Option.some.injEq, exists_eq_left', if_true, if_false]
        exact this
  have e : (L : Int) - 2 = ((L - 1 : Nat) : Int) - 1 := by omega
  refine vs_ok 5 ?_
  rw [show ((gRes 258).drop 0).take 5 = [.aload 0, .getfield 12520, .iconst 2, .isub, .istore 1] from rfl]
  simp (disch := omega) only [vs_isub, vs_iconst, vs_getfield, vs_aload0, vs_istore1n, vs_istore1i, vs_istore1r, vs_istore1l, vs_nil, gv_0, gv_1, gv_2, gv_3, pv_0, pv_1, va_rf_s, Nat.reduceDiv, Nat.reduceMod, Nat.reduceAdd, Nat.reduceMul, Int.reduceToNat, true_and, and_true, and_self, cP_eq, cP_ne, cP_lt, cP_ge, cP_gt, cP_le, eL_i, eL_l, eL_r, eL_n, Option.toList_none, Option.toList_some, List.nil_append, List.cons_append, kkI, llI, nnI, rrI, jjI, kkJ, llJ, nnJ, rrJ, iiJ, zIIs, zJJs, nEF, nET, and_false, false_and, jmin, jmax, catS_n, catS_i, catS_r, catS_l, Nat.reduceLeDiff, j1eq1, n21, jt0, jt1, Bool.false_eq_true, Classical.not_not, true_or, or_true, false_or, or_false, true_imp_iff, false_imp_iff, not_true_eq_false, not_false_eq_true, jif0, jif1, jifb, ltT, ltF, leT, leF, eqT, eqF, jlt, jle, jeq, jlt0, jle0, jeq0, jge0, jgt0, jinB, jnat, clt, cle, ceq, cgt, cge, lI_add, lI_sub, lI_mul, jadd, jsub, jmul, jneg, jtol, b010, b011, pv_2t, Int.toNat_natCast, Option.some.injEq, exists_eq_left', if_true, if_false, M, h52, e]
  exact l5 (L - 1) (by omega) fun u h1 h2 => absurd h2 (by omega)
