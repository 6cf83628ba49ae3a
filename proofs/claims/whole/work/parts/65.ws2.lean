/-! WordSearch: add (1 and -1), canBeat, isGreatestSeldomEnough, canStillBe -/
theorem wsC.W {h : Hp} {x n f fb wt : Nat} {r : List Nat} (hw : wsC h x n f fb wt r) : ∃ W G : Nat → Int, (∀ i, i < 16 → zI h (x + 4) i = iI (W i)) ∧ (∀ i, i < 4 → zI h (x + 5) i = iI (G i)) ∧ (∀ a b, a < n → b < n → b < 4 → W (4 * a + b) = wn a b r) ∧ ∀ a, a < n → G a = gr n a r := by
  obtain ⟨a1, a2, a3, a4, a5, a6, a7, a8, a9, a10⟩ := hw
  refine ⟨fun i => if i / 4 < n ∧ i % 4 < n then wn (i / 4) (i % 4) r else (zI h (x + 4) i).toInt, fun i => if i < n then gr n i r else (zI h (x + 5) i).toInt, fun i hi => ?_, fun i hi => ?_, fun a b ha hb hb4 => ?_, fun a ha => if_pos ha⟩
  · show _ = iI (if i / 4 < n ∧ i % 4 < n then ((wn (i / 4) (i % 4) r : Nat) : Int) else (zI h (x + 4) i).toInt)
    by_cases c : i / 4 < n ∧ i % 4 < n
    · rw [if_pos c, ← a9 (i / 4) (i % 4) c.1 c.2, show 4 * (i / 4) + i % 4 = i by omega]
    · rw [if_neg c, iI_of]
  · show _ = iI (if i < n then ((gr n i r : Nat) : Int) else (zI h (x + 5) i).toInt)
    by_cases c : i < n
    · rw [if_pos c, ← a10 i c]
    · rw [if_neg c, iI_of]
  · show (if (4 * a + b) / 4 < n ∧ (4 * a + b) % 4 < n then ((wn ((4 * a + b) / 4) ((4 * a + b) % 4) r : Nat) : Int) else _) = _
    rw [show (4 * a + b) / 4 = a by omega, show (4 * a + b) % 4 = b by omega, if_pos ⟨ha, hb⟩]
theorem t_addP {d : Nat} {h : Hp} {x n f fb wt c : Nat} {r : List Nat} {Q : Nat → Option Value → Hp → Prop} (hw : wsC h x n f fb wt r) (hn : n ≤ 4) (hc : c < n) (hq : ∀ h', fi (fun q => x + 3 ≤ q ∧ q ≤ x + 5) h h' → wsC h' x n f fb wt (c :: r) → Q 0 none h') : PR (d + 1) m_WordSearch_add [.ref x, .int (iI c), .int (iI 1)] h Q := by
  obtain ⟨W, G, hW, hG, eW, eG⟩ := hw.W
  have hw0 := hw
  obtain ⟨a1, a2, a3, a4, a5, a6, a7, a8, a9, a10⟩ := hw
  show PW (d + 1) 131 0 [some (.ref x), some (.int (iI c)), some (.int (iI 1)), none, none] [] h Q
  refine vs_ok 2 ?_
  rw [show ((gRes 131).drop 0).take 2 = [.iload 2, .ifCond .ge 10] from rfl]
  simp (disch := omega) only [vs_ifCond, vs_iload2, vs_nil, gv_0, gv_1, gv_2, gv_3, pv_0, pv_1, va_rf_s, Nat.reduceDiv, Nat.reduceMod, Nat.reduceAdd, Nat.reduceMul, Int.reduceToNat, true_and, and_true, and_self, cP_eq, cP_ne, cP_lt, cP_ge, cP_gt, cP_le, eL_i, eL_l, eL_r, eL_n, Option.toList_none, Option.toList_some, List.nil_append, List.cons_append, kkI, llI, nnI, rrI, jjI, kkJ, llJ, nnJ, rrJ, iiJ, zIIs, zJJs, nEF, nET, and_false, false_and, jmin, jmax, catS_n, catS_i, catS_r, catS_l, Nat.reduceLeDiff, j1eq1, n21, jt0, jt1, Bool.false_eq_true, Classical.not_not, true_or, or_true, false_or, or_false, true_imp_iff, false_imp_iff, not_true_eq_false, not_false_eq_true, jif0, jif1, jifb, ltT, ltF, leT, leF, eqT, eqF, jlt, jle, jeq, jlt0, jle0, jeq0, jge0, jgt0, jinB, jnat, clt, cle, ceq, cgt, cge, lI_add, lI_sub, lI_mul, jadd, jsub, jmul, jneg, jtol, b010, b011, pv_2t, Int.toNat_natCast, Option.some.injEq, exists_eq_left', if_true, if_false]
  refine t_addL (n := n) (f := f) (fb := fb) (wt := wt) (s := 1) (r := r) a1 a4 hn hc a8 hW hG fun g o4 ff hI hJ => ?_
  have go := a1.fi ff
  have q := ff.1.2.2.2.2.2.1
  have gU : zI g (x + 3) = zI h (x + 3) := q _ (by omega)
  refine vs_ok 10 ?_
  rw [show ((gRes 131).drop 57).take 10 = [.iload 2, .ifCond .le 67, .aload 0, .getfield 10022, .iload 1, .dup2, .iaload, .iconst 1, .iadd, .iastore] from rfl]
  simp (disch := omega) only [vs_iadd, vs_iconst, vs_ifCond, vs_getfield, vs_iaload, vs_iastore, vs_dup2, vs_aload0, vs_iload1, vs_iload2, vs_nil, gv_0, gv_1, gv_2, gv_3, pv_0, pv_1, va_rf_s, Nat.reduceDiv, Nat.reduceMod, Nat.reduceAdd, Nat.reduceMul, Int.reduceToNat, true_and, and_true, and_self, cP_eq, cP_ne, cP_lt, cP_ge, cP_gt, cP_le, eL_i, eL_l, eL_r, eL_n, Option.toList_none, Option.toList_some, List.nil_append, List.cons_append, kkI, llI, nnI, rrI, jjI, kkJ, llJ, nnJ, rrJ, iiJ, zIIs, zJJs, nEF, nET, and_false, false_and, jmin, jmax, catS_n, catS_i, catS_r, catS_l, Nat.reduceLeDiff, j1eq1, n21, jt0, jt1, Bool.false_eq_true, Classical.not_not, true_or, or_true, false_or, or_false, true_imp_iff, false_imp_iff, not_true_eq_false, not_false_eq_true, jif0, jif1, jifb, ltT, ltF, leT, leF, eqT, eqF, jlt, jle, jeq, jlt0, jle0, jeq0, jge0, jgt0, jinB, jnat, clt, cle, ceq, cgt, cge, lI_add, lI_sub, lI_mul, jadd, jsub, jmul, jneg, jtol, b010, b011, pv_2t, Int.toNat_natCast, Option.some.injEq, exists_eq_left', if_true, if_false, wsF go, gU, a8 c (by omega)]
  refine vs_ok 1 ?_
  rw [show ((gRes 131).drop 67).take 1 = [.return_] from rfl]
  simp (disch := omega) only [vs_return_, vs_nil, gv_0, gv_1, gv_2, gv_3, pv_0, pv_1, va_rf_s, Nat.reduceDiv, Nat.reduceMod, Nat.reduceAdd, Nat.reduceMul, Int.reduceToNat, true_and, and_true, and_self, cP_eq, cP_ne, cP_lt, cP_ge, cP_gt, cP_le, eL_i, eL_l, eL_r, eL_n, Option.toList_none, Option.toList_some, List.nil_append, List.cons_append, kkI, llI, nnI, rrI, jjI, kkJ, llJ, nnJ, rrJ, iiJ, zIIs, zJJs, nEF, nET, and_false, false_and, jmin, jmax, catS_n, catS_i, catS_r, catS_l, Nat.reduceLeDiff, j1eq1, n21, jt0, jt1, Bool.false_eq_true, Classical.not_not, true_or, or_true, false_or, or_false, true_imp_iff, false_imp_iff, not_true_eq_false, not_false_eq_true, jif0, jif1, jifb, ltT, ltF, leT, leF, eqT, eqF, jlt, jle, jeq, jlt0, jle0, jeq0, jge0, jgt0, jinB, jnat, clt, cle, ceq, cgt, cge, lI_add, lI_sub, lI_mul, jadd, jsub, jmul, jneg, jtol, b010, b011, pv_2t, Int.toNat_natCast, Option.some.injEq, exists_eq_left', if_true, if_false, show gRc 131 = 0 from rfl]
  refine hq _ ((ff.wk fun q z => by omega).I (by omega)) ?_
  have f1 : fi (fun q => q = x + 3) g (zsI g (x + 3) c (iI ((cn c r : Int) + 1))) := fi_I rfl
  have gx : zI g x = zI h x := q _ (by omega)
  refine ⟨go.fi f1, by rw [f1.2, ff.2]; exact a2, (a3.fi ff).fi f1, ?_, ?_, ?_, ?_, fun e he => ?_, fun a b ha hb => ?_, fun a ha => ?_⟩
  · rw [zI_s, if_neg (by omega), gx]; exact a4
  · rw [zI_s, if_neg (by omega), gx]; exact a5
  · rw [zI_s, if_neg (by omega), gx]; exact a6
  · rw [zI_s, if_neg (by omega), gx]; exact a7
  · rw [zI_s]
    show _ = iI ((cn e r + (if c = e then 1 else 0) : Nat) : Int)
    by_cases y : e = c
    · rw [if_pos ⟨rfl, y⟩, if_pos y.symm, y]
      rfl
    · rw [if_neg (fun z => y z.2), if_neg (fun z => y z.symm), gU]
      exact a8 e he
  · rw [zI_s, if_neg (by omega), hI _ (by omega), show (4 * a + b) / 4 = a by omega, show (4 * a + b) % 4 = b by omega, eW a b ha hb (by omega)]
    show _ = iI ((wn a b r + (if a = c ∧ b ≠ c then cn b r else 0) : Nat) : Int)
    by_cases y : a = c ∧ b ≠ c
    · rw [if_pos ⟨y.1, hb, y.2⟩, if_pos y]
      refine congrArg iI ?_
      omega
    · rw [if_neg (fun z => y ⟨z.1, z.2.2⟩), if_neg y]
      rfl
  · rw [zI_s, if_neg (by omega), hJ a (by omega), eG a ha]
    show _ = iI ((gr n a r + (if a = c then prN (fun e => cn e r) c n else 0) : Nat) : Int)
    by_cases y : a = c
    · rw [if_pos y, if_pos y]
      refine congrArg iI ?_
      omega
    · rw [if_neg y, if_neg y]
      rfl
theorem t_addM {d : Nat} {h : Hp} {x n f fb wt c : Nat} {r : List Nat} {Q : Nat → Option Value → Hp → Prop} (hw : wsC h x n f fb wt (c :: r)) (hn : n ≤ 4) (hc : c < n) (hq : ∀ h', fi (fun q => x + 3 ≤ q ∧ q ≤ x + 5) h h' → wsC h' x n f fb wt r → Q 0 none h') : PR (d + 1) m_WordSearch_add [.ref x, .int (iI c), .int (iI (-1))] h Q := by
  obtain ⟨W, G, hW, hG, eW, eG⟩ := hw.W
  have hw0 := hw
  obtain ⟨a1, a2, a3, a4, a5, a6, a7, a8, a9, a10⟩ := hw
  have e0 : cn c (c :: r) = cn c r + 1 := by
    show cn c r + (if c = c then 1 else 0) = _
    rw [if_pos rfl]
  show PW (d + 1) 131 0 [some (.ref x), some (.int (iI c)), some (.int (iI (-1))), none, none] [] h Q
  refine vs_ok 2 ?_
  rw [show ((gRes 131).drop 0).take 2 = [.iload 2, .ifCond .ge 10] from rfl]
  simp (disch := omega) only [vs_ifCond, vs_iload2, vs_nil, gv_0, gv_1, gv_2, gv_3, pv_0, pv_1, va_rf_s, Nat.reduceDiv, Nat.reduceMod, Nat.reduceAdd, Nat.reduceMul, Int.reduceToNat, true_and, and_true, and_self, cP_eq, cP_ne, cP_lt, cP_ge, cP_gt, cP_le, eL_i, eL_l, eL_r, eL_n, Option.toList_none, Option.toList_some, List.nil_append, List.cons_append, kkI, llI, nnI, rrI, jjI, kkJ, llJ, nnJ, rrJ, iiJ, zIIs, zJJs, nEF, nET, and_false, false_and, jmin, jmax, catS_n, catS_i, catS_r, catS_l, Nat.reduceLeDiff, j1eq1, n21, jt0, jt1, Bool.false_eq_true, Classical.not_not, true_or, or_true, false_or, or_false, true_imp_iff, false_imp_iff, not_true_eq_false, not_false_eq_true, jif0, jif1, jifb, ltT, ltF, leT, leF, eqT, eqF, jlt, jle, jeq, jlt0, jle0, jeq0, jge0, jgt0, jinB, jnat, clt, cle, ceq, cgt, cge, lI_add, lI_sub, lI_mul, jadd, jsub, jmul, jneg, jtol, b010, b011, pv_2t, Int.toNat_natCast, Option.some.injEq, exists_eq_left', if_true, if_false]
  have e1 : ((cn c r + 1 : Nat) : Int) - 1 = (cn c r : Int) := by omega
  refine vs_ok 8 ?_
  rw [show ((gRes 131).drop 2).take 8 = [.aload 0, .getfield 10022, .iload 1, .dup2, .iaload, .iconst 1, .isub, .iastore] from rfl]
  simp (disch := omega) only [vs_isub, vs_iconst, vs_getfield, vs_iaload, vs_iastore, vs_dup2, vs_aload0, vs_iload1, vs_nil, gv_0, gv_1, gv_2, gv_3, pv_0, pv_1, va_rf_s, Nat.reduceDiv, Nat.reduceMod, Nat.reduceAdd, Nat.reduceMul, Int.reduceToNat, true_and, and_true, and_self, cP_eq, cP_ne, cP_lt, cP_ge, cP_gt, cP_le, eL_i, eL_l, eL_r, eL_n, Option.toList_none, Option.toList_some, List.nil_append, List.cons_append, kkI, llI, nnI, rrI, jjI, kkJ, llJ, nnJ, rrJ, iiJ, zIIs, zJJs, nEF, nET, and_false, false_and, jmin, jmax, catS_n, catS_i, catS_r, catS_l, Nat.reduceLeDiff, j1eq1, n21, jt0, jt1, Bool.false_eq_true, Classical.not_not, true_or, or_true, false_or, or_false, true_imp_iff, false_imp_iff, not_true_eq_false, not_false_eq_true, jif0, jif1, jifb, ltT, ltF, leT, leF, eqT, eqF, jlt, jle, jeq, jlt0, jle0, jeq0, jge0, jgt0, jinB, jnat, clt, cle, ceq, cgt, cge, lI_add, lI_sub, lI_mul, jadd, jsub, jmul, jneg, jtol, b010, b011, pv_2t, Int.toNat_natCast, Option.some.injEq, exists_eq_left', if_true, if_false, wsF a1, a8 c (by omega), e0, e1]
  have f1 : fi (fun q => q = x + 3) h (zsI h (x + 3) c (iI (cn c r : Int))) := fi_I rfl
  refine t_addL (n := n) (f := f) (fb := fb) (wt := wt) (s := -1) (r := r) (W := W) (G := G) (a1.fi f1) (by rw [zI_s, if_neg (by omega)]; exact a4) hn hc (fun e he => ?_) (fun i hi => by rw [zI_s, if_neg (by omega)]; exact hW i hi) (fun i hi => by rw [zI_s, if_neg (by omega)]; exact hG i hi) fun g o4 ff hI hJ => ?_
  · rw [zI_s]
    by_cases y : e = c
    · rw [if_pos ⟨rfl, y⟩, y]
    · rw [if_neg (fun z => y z.2), a8 e he]
      show iI ((cn e r + (if c = e then 1 else 0) : Nat) : Int) = _
      rw [if_neg (fun z => y z.symm)]
      rfl
  have go := (a1.fi f1).fi ff
  have q := ff.1.2.2.2.2.2.1
  have gx : zI g x = zI h x := by
    rw [q _ (by omega), f1.1.2.2.2.2.2.1 _ (by omega)]
  have gU : zI g (x + 3) = zI (zsI h (x + 3) c (iI (cn c r : Int))) (x + 3) := q _ (by omega)
  refine vs_ok 2 ?_
  rw [show ((gRes 131).drop 57).take 2 = [.iload 2, .ifCond .le 67] from rfl]
  simp (disch := omega) only [vs_ifCond, vs_iload2, vs_nil, gv_0, gv_1, gv_2, gv_3, pv_0, pv_1, va_rf_s, Nat.reduceDiv, Nat.reduceMod, Nat.reduceAdd, Nat.reduceMul, Int.reduceToNat, true_and, and_true, and_self, cP_eq, cP_ne, cP_lt, cP_ge, cP_gt, cP_le, eL_i, eL_l, eL_r, eL_n, Option.toList_none, Option.toList_some, List.nil_append, List.cons_append, kkI, llI, nnI, rrI, jjI, kkJ, llJ, nnJ, rrJ, iiJ, zIIs, zJJs, nEF, nET, and_false, false_and, jmin, jmax, catS_n, catS_i, catS_r, catS_l, Nat.reduceLeDiff, j1eq1, n21, jt0, jt1, Bool.false_eq_true, Classical.not_not, true_or, or_true, false_or, or_false, true_imp_iff, false_imp_iff, not_true_eq_false, not_false_eq_true, jif0, jif1, jifb, ltT, ltF, leT, leF, eqT, eqF, jlt, jle, jeq, jlt0, jle0, jeq0, jge0, jgt0, jinB, jnat, clt, cle, ceq, cgt, cge, lI_add, lI_sub, lI_mul, jadd, jsub, jmul, jneg, jtol, b010, b011, pv_2t, Int.toNat_natCast, Option.some.injEq, exists_eq_left', if_true, if_false]
  refine vs_ok 1 ?_
  rw [show ((gRes 131).drop 67).take 1 = [.return_] from rfl]
  simp (disch := omega) only [vs_return_, vs_nil, gv_0, gv_1, gv_2, gv_3, pv_0, pv_1, va_rf_s, Nat.reduceDiv, Nat.reduceMod, Nat.reduceAdd, Nat.reduceMul, Int.reduceToNat, true_and, and_true, and_self, cP_eq, cP_ne, cP_lt, cP_ge, cP_gt, cP_le, eL_i, eL_l, eL_r, eL_n, Option.toList_none, Option.toList_some, List.nil_append, List.cons_append, kkI, llI, nnI, rrI, jjI, kkJ, llJ, nnJ, rrJ, iiJ, zIIs, zJJs, nEF, nET, and_false, false_and, jmin, jmax, catS_n, catS_i, catS_r, catS_l, Nat.reduceLeDiff, j1eq1, n21, jt0, jt1, Bool.false_eq_true, Classical.not_not, true_or, or_true, false_or, or_false, true_imp_iff, false_imp_iff, not_true_eq_false, not_false_eq_true, jif0, jif1, jifb, ltT, ltF, leT, leF, eqT, eqF, jlt, jle, jeq, jlt0, jle0, jeq0, jge0, jgt0, jinB, jnat, clt, cle, ceq, cgt, cge, lI_add, lI_sub, lI_mul, jadd, jsub, jmul, jneg, jtol, b010, b011, pv_2t, Int.toNat_natCast, Option.some.injEq, exists_eq_left', if_true, if_false, show gRc 131 = 0 from rfl]
  refine hq _ ((f1.wk fun q z => by omega).tr (ff.wk fun q z => by omega)) ⟨go, by rw [ff.2, f1.2]; exact a2, (a3.fi f1).fi ff, by rw [gx]; exact a4, by rw [gx]; exact a5, by rw [gx]; exact a6, by rw [gx]; exact a7, fun e he => ?_, fun a b ha hb => ?_, fun a ha => ?_⟩
  · rw [gU, zI_s]
    by_cases y : e = c
    · rw [if_pos ⟨rfl, y⟩, y]
    · rw [if_neg (fun z => y z.2), a8 e he]
      show iI ((cn e r + (if c = e then 1 else 0) : Nat) : Int) = _
      rw [if_neg (fun z => y z.symm)]
      rfl
  · rw [hI _ (by omega), show (4 * a + b) / 4 = a by omega, show (4 * a + b) % 4 = b by omega, eW a b ha hb (by omega)]
    have e2 : wn a b (c :: r) = wn a b r + (if a = c ∧ b ≠ c then cn b r else 0) := rfl
    rw [e2]
    by_cases y : a = c ∧ b ≠ c
    · rw [if_pos ⟨y.1, hb, y.2⟩, if_pos y]
      refine congrArg iI ?_
      omega
    · rw [if_neg (fun z => y ⟨z.1, z.2.2⟩), if_neg y]
      rfl
  · rw [hJ a (by omega), eG a ha]
    have e2 : gr n a (c :: r) = gr n a r + (if a = c then prN (fun e => cn e r) c n else 0) := rfl
    rw [e2]
    by_cases y : a = c
    · rw [if_pos y, if_pos y]
      refine congrArg iI ?_
      omega
    · rw [if_neg y, if_neg y]
      rfl
/-- FACES of a may still beat those of b -/
abbrev cbP (f a b : Nat) (r : List Nat) : Prop := (f : Int) * f < 2 * ((wn a b r : Int) + ((f : Int) - cn a r) * f)
theorem t_canBeat {d : Nat} {h : Hp} {x n f fb wt a b : Nat} {r : List Nat} {Q : Nat → Option Value → Hp → Prop} (hw : wsC h x n f fb wt r) (hn : n ≤ 4) (hf : f ≤ 6) (hr : r.length ≤ 12) (ha : a < n) (hb : b < n) (hq : Q 0 (some (.int (iI (if cbP f a b r then 1 else 0)))) h) : PR d m_WordSearch_canBeat [.ref x, .int (iI a), .int (iI b)] h Q := by
  obtain ⟨a1, a2, a3, a4, a5, a6, a7, a8, a9, a10⟩ := hw
  have w1 := Nat.le_trans (wn_le a b r) (Nat.mul_le_mul hr hr)
  have c1 := Nat.le_trans (cn_le a r) hr
  have e1 : (a : Int) * 4 + (b : Int) = ((4 * a + b : Nat) : Int) := by omega
  have hb1 : -1000 ≤ ((f : Int) - cn a r) * f ∧ ((f : Int) - cn a r) * f ≤ 1000 ∧ (f : Int) * f ≤ 1000 ∧ 0 ≤ (f : Int) * f := by
    have : f = 0 ∨ f = 1 ∨ f = 2 ∨ f = 3 ∨ f = 4 ∨ f = 5 ∨ f = 6 := by omega
    rcases this with z | z | z | z | z | z | z <;> subst z <;> omega
  show PW d 134 0 [some (.ref x), some (.int (iI a)), some (.int (iI b)), none] [] h Q
  by_cases c : cbP f a b r
  · rw [if_pos c] at hq
    refine vs_ok 29 ?_
    rw [show ((gRes 134).drop 0).take 29 = [.aload 0, .getfield 10032, .iload 1, .iconst 4, .imul, .iload 2, .iadd, .iaload, .aload 0, .getfield 10080, .aload 0, .getfield 10022, .iload 1, .iaload, .isub, .aload 0, .getfield 10080, .imul, .iadd, .istore 3, .iconst 2, .iload 3, .imul, .aload 0, .getfield 10080, .aload 0, .getfield 10080, .imul, .if_icmp .le 31] from rfl]
    simp (disch := omega) only [vs_iadd, vs_isub, vs_imul, vs_iconst, vs_if_icmp, vs_getfield, vs_iaload, vs_aload0, vs_iload1, vs_iload2, vs_iload3, vs_istore3n, vs_istore3i, vs_istore3r, vs_istore3l, vs_nil, gv_0, gv_1, gv_2, gv_3, pv_0, pv_1, va_rf_s, Nat.reduceDiv, Nat.reduceMod, Nat.reduceAdd, Nat.reduceMul, Int.reduceToNat, true_and, and_true, and_self, cP_eq, cP_ne, cP_lt, cP_ge, cP_gt, cP_le, eL_i, eL_l, eL_r, eL_n, Option.toList_none, Option.toList_some, List.nil_append, List.cons_append, kkI, llI, nnI, rrI, jjI, kkJ, llJ, nnJ, rrJ, iiJ, zIIs, zJJs, nEF, nET, and_false, false_and, jmin, jmax, catS_n, catS_i, catS_r, catS_l, Nat.reduceLeDiff, j1eq1, n21, jt0, jt1, Bool.false_eq_true, Classical.not_not, true_or, or_true, false_or, or_false, true_imp_iff, false_imp_iff, not_true_eq_false, not_false_eq_true, jif0, jif1, jifb, ltT, ltF, leT, leF, eqT, eqF, jlt, jle, jeq, jlt0, jle0, jeq0, jge0, jgt0, jinB, jnat, clt, cle, ceq, cgt, cge, lI_add, lI_sub, lI_mul, jadd, jsub, jmul, jneg, jtol, b010, b011, pv_2t, Int.toNat_natCast, Option.some.injEq, exists_eq_left', if_true, if_false, wsF a1, e1, a9 a b ha hb, a8 a (by omega), a5]
    refine vs_ok 2 ?_
    rw [show ((gRes 134).drop 29).take 2 = [.iconst 1, .goto 32] from rfl]
    simp (disch := omega) only [vs_iconst, vs_goto, vs_nil, gv_0, gv_1, gv_2, gv_3, pv_0, pv_1, va_rf_s, Nat.reduceDiv, Nat.reduceMod, Nat.reduceAdd, Nat.reduceMul, Int.reduceToNat, true_and, and_true, and_self, cP_eq, cP_ne, cP_lt, cP_ge, cP_gt, cP_le, eL_i, eL_l, eL_r, eL_n, Option.toList_none, Option.toList_some, List.nil_append, List.cons_append, kkI, llI, nnI, rrI, jjI, kkJ, llJ, nnJ, rrJ, iiJ, zIIs, zJJs, nEF, nET, and_false, false_and, jmin, jmax, catS_n, catS_i, catS_r, catS_l, Nat.reduceLeDiff, j1eq1, n21, jt0, jt1, Bool.false_eq_true, Classical.not_not, true_or, or_true, false_or, or_false, true_imp_iff, false_imp_iff, not_true_eq_false, not_false_eq_true, jif0, jif1, jifb, ltT, ltF, leT, leF, eqT, eqF, jlt, jle, jeq, jlt0, jle0, jeq0, jge0, jgt0, jinB, jnat, clt, cle, ceq, cgt, cge, lI_add, lI_sub, lI_mul, jadd, jsub, jmul, jneg, jtol, b010, b011, pv_2t, Int.toNat_natCast, Option.some.injEq, exists_eq_left', if_true, if_false]
    refine vs_ok 1 ?_
    rw [show ((gRes 134).drop 32).take 1 = [.ireturn] from rfl]
    simp (disch := omega) only [vs_ireturn, vs_nil, gv_0, gv_1, gv_2, gv_3, pv_0, pv_1, va_rf_s, Nat.reduceDiv, Nat.reduceMod, Nat.reduceAdd, Nat.reduceMul, Int.reduceToNat, true_and, and_true, and_self, cP_eq, cP_ne, cP_lt, cP_ge, cP_gt, cP_le, eL_i, eL_l, eL_r, eL_n, Option.toList_none, Option.toList_some, List.nil_append, List.cons_append, kkI, llI, nnI, rrI, jjI, kkJ, llJ, nnJ, rrJ, iiJ, zIIs, zJJs, nEF, nET, and_false, false_and, jmin, jmax, catS_n, catS_i, catS_r, catS_l, Nat.reduceLeDiff, j1eq1, n21, jt0, jt1, Bool.false_eq_true, Classical.not_not, true_or, or_true, false_or, or_false, true_imp_iff, false_imp_iff, not_true_eq_false, not_false_eq_true, jif0, jif1, jifb, ltT, ltF, leT, leF, eqT, eqF, jlt, jle, jeq, jlt0, jle0, jeq0, jge0, jgt0, jinB, jnat, clt, cle, ceq, cgt, cge, lI_add, lI_sub, lI_mul, jadd, jsub, jmul, jneg, jtol, b010, b011, pv_2t, Int.toNat_natCast, Option.some.injEq, exists_eq_left', if_true, if_false, show gRc 134 = 2 from rfl]
    exact hq
  · rw [if_neg c] at hq
    refine vs_ok 29 ?_
    rw [show ((gRes 134).drop 0).take 29 = [.aload 0, .getfield 10032, .iload 1, .iconst 4, .imul, .iload 2, .iadd, .iaload, .aload 0, .getfield 10080, .aload 0, .getfield 10022, .iload 1, .iaload, .isub, .aload 0, .getfield 10080, .imul, .iadd, .istore 3, .iconst 2, .iload 3, .imul, .aload 0, .getfield 10080, .aload 0, .getfield 10080, .imul, .if_icmp .le 31] from rfl]
    simp (disch := omega) only [vs_iadd, vs_isub, vs_imul, vs_iconst, vs_if_icmp, vs_getfield, vs_iaload, vs_aload0, vs_iload1, vs_iload2, vs_iload3, vs_istore3n, vs_istore3i, vs_istore3r, vs_istore3l, vs_nil, gv_0, gv_1, gv_2, gv_3, pv_0, pv_1, va_rf_s, Nat.reduceDiv, Nat.reduceMod, Nat.reduceAdd, Nat.reduceMul, Int.reduceToNat, true_and, and_true, and_self, cP_eq, cP_ne, cP_lt, cP_ge, cP_gt, cP_le, eL_i, eL_l, eL_r, eL_n, Option.toList_none, Option.toList_some, List.nil_append, List.cons_append, kkI, llI, nnI, rrI, jjI, kkJ, llJ, nnJ, rrJ, iiJ, zIIs, zJJs, nEF, nET, and_false, false_and, jmin, jmax, catS_n, catS_i, catS_r, catS_l, Nat.reduceLeDiff, j1eq1, n21, jt0, jt1, Bool.false_eq_true, Classical.not_not, true_or, or_true, false_or, or_false, true_imp_iff, false_imp_iff, not_true_eq_false, not_false_eq_true, jif0, jif1, jifb, ltT, ltF, leT, leF, eqT, eqF, jlt, jle, jeq, jlt0, jle0, jeq0, jge0, jgt0, jinB, jnat, clt, cle, ceq, cgt, cge, lI_add, lI_sub, lI_mul, jadd, jsub, jmul, jneg, jtol, b010, b011, pv_2t, Int.toNat_natCast, Option.some.injEq, exists_eq_left', if_true, if_false, wsF a1, e1, a9 a b ha hb, a8 a (by omega), a5]
    refine vs_ok 2 ?_
    rw [show ((gRes 134).drop 31).take 2 = [.iconst 0, .ireturn] from rfl]
    simp (disch := omega) only [vs_iconst, vs_ireturn, vs_nil, gv_0, gv_1, gv_2, gv_3, pv_0, pv_1, va_rf_s, Nat.reduceDiv, Nat.reduceMod, Nat.reduceAdd, Nat.reduceMul, Int.reduceToNat, true_and, and_true, and_self, cP_eq, cP_ne, cP_lt, cP_ge, cP_gt, cP_le, eL_i, eL_l, eL_r, eL_n, Option.toList_none, Option.toList_some, List.nil_append, List.cons_append, kkI, llI, nnI, rrI, jjI, kkJ, llJ, nnJ, rrJ, iiJ, zIIs, zJJs, nEF, nET, and_false, false_and, jmin, jmax, catS_n, catS_i, catS_r, catS_l, Nat.reduceLeDiff, j1eq1, n21, jt0, jt1, Bool.false_eq_true, Classical.not_not, true_or, or_true, false_or, or_false, true_imp_iff, false_imp_iff, not_true_eq_false, not_false_eq_true, jif0, jif1, jifb, ltT, ltF, leT, leF, eqT, eqF, jlt, jle, jeq, jlt0, jle0, jeq0, jge0, jgt0, jinB, jnat, clt, cle, ceq, cgt, cge, lI_add, lI_sub, lI_mul, jadd, jsub, jmul, jneg, jtol, b010, b011, pv_2t, Int.toNat_natCast, Option.some.injEq, exists_eq_left', if_true, if_false, show gRc 134 = 2 from rfl]
    exact hq
theorem f_pow (f n : Nat) (hf : f ≤ 6) (hn : n ≤ 4) : f ^ n ≤ 1296 := Nat.le_trans (Nat.pow_le_pow_left hf n) (Nat.pow_le_pow_right (n := 6) (by omega) hn)
abbrev gsP (n f : Nat) (r : List Nat) : Prop := ∀ a, a < n → gr n a r * n ≤ f ^ n
theorem t_isGreatestSeldomEnough {d : Nat} {h : Hp} {x n f fb wt : Nat} {r : List Nat} {Q : Nat → Option Value → Hp → Prop} (hw : wsC h x n f fb wt r) (hn : n ≤ 4) (hf : f ≤ 6) (hr : r.length ≤ 12) (hq1 : gsP n f r → Q 0 (some (.int (iI 1))) h) (hq0 : ¬ gsP n f r → Q 0 (some (.int (iI 0))) h) : PR d m_WordSearch_isGreatestSeldomEnough [.ref x] h Q := by
  obtain ⟨a1, a2, a3, a4, a5, a6, a7, a8, a9, a10⟩ := hw
  have pb := f_pow f n hf hn
  show PW d 133 0 [some (.ref x), none, none] [] h Q
  have l2 : ∀ (k a : Nat), k + a = n → (∀ b, b < a → gr n b r * n ≤ f ^ n) → PW d 133 17 [some (.ref x), some (.int (iI (f ^ n : Nat))), some (.int (iI a))] [] h Q := by
    intro k
    induction k with
    | zero =>
      intro a hk hg
      have e : a = n := by omega
      subst e
      refine vs_ok 4 ?_
      rw [show ((gRes 133).drop 17).take 4 = [.iload 2, .aload 0, .getfield 10070, .if_icmp .ge 34] from rfl]
      simp (disch := omega) only [vs_if_icmp, vs_getfield, vs_aload0, vs_iload2, vs_nil, gv_0, gv_1, gv_2, gv_3, pv_0, pv_1, va_rf_s, Nat.reduceDiv, Nat.reduceMod, Nat.reduceAdd, Nat.reduceMul, Int.reduceToNat, true_and, and_true, and_self, cP_eq, cP_ne, cP_lt, cP_ge, cP_gt, cP_le, eL_i, eL_l, eL_r, eL_n, Option.toList_none, Option.toList_some, List.nil_append, List.cons_append, kkI, llI, nnI, rrI, jjI, kkJ, llJ, nnJ, rrJ, iiJ, zIIs, zJJs, nEF, nET, and_false, false_and, jmin, jmax, catS_n, catS_i, catS_r, catS_l, Nat.reduceLeDiff, j1eq1, n21, jt0, jt1, Bool.false_eq_true, Classical.not_not, true_or, or_true, false_or, or_false, true_imp_iff, false_imp_iff, not_true_eq_false, not_false_eq_true, jif0, jif1, jifb, ltT, ltF, leT, leF, eqT, eqF, jlt, jle, jeq, jlt0, jle0, jeq0, jge0, jgt0, jinB, jnat, clt, cle, ceq, cgt, cge, lI_add, lI_sub, lI_mul, jadd, jsub, jmul, jneg, jtol, b010, b011, pv_2t, Int.toNat_natCast, Option.some.injEq, exists_eq_left', if_true, if_false, wsF a1, a4]
      refine vs_ok 2 ?_
      rw [show ((gRes 133).drop 34).take 2 = [.iconst 1, .ireturn] from rfl]
      simp (disch := omega) only [vs_iconst, vs_ireturn, vs_nil, gv_0, gv_1, gv_2, gv_3, pv_0, pv_1, va_rf_s, Nat.reduceDiv, Nat.reduceMod, Nat.reduceAdd, Nat.reduceMul, Int.reduceToNat, true_and, and_true, and_self, cP_eq, cP_ne, cP_lt, cP_ge, cP_gt, cP_le, eL_i, eL_l, eL_r, eL_n, Option.toList_none, Option.toList_some, List.nil_append, List.cons_append, kkI, llI, nnI, rrI, jjI, kkJ, llJ, nnJ, rrJ, iiJ, zIIs, zJJs, nEF, nET, and_false, false_and, jmin, jmax, catS_n, catS_i, catS_r, catS_l, Nat.reduceLeDiff, j1eq1, n21, jt0, jt1, Bool.false_eq_true, Classical.not_not, true_or, or_true, false_or, or_false, true_imp_iff, false_imp_iff, not_true_eq_false, not_false_eq_true, jif0, jif1, jifb, ltT, ltF, leT, leF, eqT, eqF, jlt, jle, jeq, jlt0, jle0, jeq0, jge0, jgt0, jinB, jnat, clt, cle, ceq, cgt, cge, lI_add, lI_sub, lI_mul, jadd, jsub, jmul, jneg, jtol, b010, b011, pv_2t, Int.toNat_natCast, Option.some.injEq, exists_eq_left', if_true, if_false, show gRc 133 = 2 from rfl]
      exact hq1 hg
    | succ k ih =>
      intro a hk hg
      have g1 := gr_le hn a r hr
      have g2 : gr n a r * n ≤ 1000000 := by
        have : gr n a r * n ≤ (12 * 20736) * 4 := Nat.mul_le_mul (Nat.le_trans g1 (Nat.mul_le_mul_right _ hr)) hn
        exact Nat.le_trans this (Nat.le_of_ble_eq_true rfl)
      have e1 : (gr n a r : Int) * (n : Int) = ((gr n a r * n : Nat) : Int) := by rw [Int.natCast_mul]
      clear g1
      refine vs_ok 4 ?_
      rw [show ((gRes 133).drop 17).take 4 = [.iload 2, .aload 0, .getfield 10070, .if_icmp .ge 34] from rfl]
      simp (disch := omega) only [vs_if_icmp, vs_getfield, vs_aload0, vs_iload2, vs_nil, gv_0, gv_1, gv_2, gv_3, pv_0, pv_1, va_rf_s, Nat.reduceDiv, Nat.reduceMod, Nat.reduceAdd, Nat.reduceMul, Int.reduceToNat, true_and, and_true, and_self, cP_eq, cP_ne, cP_lt, cP_ge, cP_gt, cP_le, eL_i, eL_l, eL_r, eL_n, Option.toList_none, Option.toList_some, List.nil_append, List.cons_append, kkI, llI, nnI, rrI, jjI, kkJ, llJ, nnJ, rrJ, iiJ, zIIs, zJJs, nEF, nET, and_false, false_and, jmin, jmax, catS_n, catS_i, catS_r, catS_l, Nat.reduceLeDiff, j1eq1, n21, jt0, jt1, Bool.false_eq_true, Classical.not_not, true_or, or_true, false_or, or_false, true_imp_iff, false_imp_iff, not_true_eq_false, not_false_eq_true, jif0, jif1, jifb, ltT, ltF, leT, leF, eqT, eqF, jlt, jle, jeq, jlt0, jle0, jeq0, jge0, jgt0, jinB, jnat, clt, cle, ceq, cgt, cge, lI_add, lI_sub, lI_mul, jadd, jsub, jmul, jneg, jtol, b010, b011, pv_2t, Int.toNat_natCast, Option.some.injEq, exists_eq_left', if_true, if_false, wsF a1, a4]
      by_cases c : gr n a r * n ≤ f ^ n
      · refine vs_ok 9 ?_
        rw [show ((gRes 133).drop 21).take 9 = [.aload 0, .getfield 10042, .iload 2, .iaload, .aload 0, .getfield 10070, .imul, .iload 1, .if_icmp .le 32] from rfl]
        simp (disch := omega) only [vs_imul, vs_if_icmp, vs_getfield, vs_iaload, vs_aload0, vs_iload1, vs_iload2, vs_nil, gv_0, gv_1, gv_2, gv_3, pv_0, pv_1, va_rf_s, Nat.reduceDiv, Nat.reduceMod, Nat.reduceAdd, Nat.reduceMul, Int.reduceToNat, true_and, and_true, and_self, cP_eq, cP_ne, cP_lt, cP_ge, cP_gt, cP_le, eL_i, eL_l, eL_r, eL_n, Option.toList_none, Option.toList_some, List.nil_append, List.cons_append, kkI, llI, nnI, rrI, jjI, kkJ, llJ, nnJ, rrJ, iiJ, zIIs, zJJs, nEF, nET, and_false, false_and, jmin, jmax, catS_n, catS_i, catS_r, catS_l, Nat.reduceLeDiff, j1eq1, n21, jt0, jt1, Bool.false_eq_true, Classical.not_not, true_or, or_true, false_or, or_false, true_imp_iff, false_imp_iff, not_true_eq_false, not_false_eq_true, jif0, jif1, jifb, ltT, ltF, leT, leF, eqT, eqF, jlt, jle, jeq, jlt0, jle0, jeq0, jge0, jgt0, jinB, jnat, clt, cle, ceq, cgt, cge, lI_add, lI_sub, lI_mul, jadd, jsub, jmul, jneg, jtol, b010, b011, pv_2t, Int.toNat_natCast, Option.some.injEq, exists_eq_left', if_true, if_false, wsF a1, a4, a10 a (by omega), e1]
        refine vs_ok 2 ?_
        rw [show ((gRes 133).drop 32).take 2 = [.iinc 2 1, .goto 17] from rfl]
        simp (disch := omega) only [vs_goto, vs_iinc2n, vs_iinc2i, vs_iinc2r, vs_iinc2l, vs_nil, gv_0, gv_1, gv_2, gv_3, pv_0, pv_1, va_rf_s, Nat.reduceDiv, Nat.reduceMod, Nat.reduceAdd, Nat.reduceMul, Int.reduceToNat, true_and, and_true, and_self, cP_eq, cP_ne, cP_lt, cP_ge, cP_gt, cP_le, eL_i, eL_l, eL_r, eL_n, Option.toList_none, Option.toList_some, List.nil_append, List.cons_append, kkI, llI, nnI, rrI, jjI, kkJ, llJ, nnJ, rrJ, iiJ, zIIs, zJJs, nEF, nET, and_false, false_and, jmin, jmax, catS_n, catS_i, catS_r, catS_l, Nat.reduceLeDiff, j1eq1, n21, jt0, jt1, Bool.false_eq_true, Classical.not_not, true_or, or_true, false_or, or_false, true_imp_iff, false_imp_iff, not_true_eq_false, not_false_eq_true, jif0, jif1, jifb, ltT, ltF, leT, leF, eqT, eqF, jlt, jle, jeq, jlt0, jle0, jeq0, jge0, jgt0, jinB, jnat, clt, cle, ceq, cgt, cge, lI_add, lI_sub, lI_mul, jadd, jsub, jmul, jneg, jtol, b010, b011, pv_2t, Int.toNat_natCast, Option.some.injEq, exists_eq_left', if_true, if_false]
        refine ih (a + 1) (by omega) fun b hb => ?_
        by_cases y : b = a
        · rw [y]
          exact c
        · exact hg b (by omega)
      · refine vs_ok 9 ?_
        rw [show ((gRes 133).drop 21).take 9 = [.aload 0, .getfield 10042, .iload 2, .iaload, .aload 0, .getfield 10070, .imul, .iload 1, .if_icmp .le 32] from rfl]
        simp (disch := omega) only [vs_imul, vs_if_icmp, vs_getfield, vs_iaload, vs_aload0, vs_iload1, vs_iload2, vs_nil, gv_0, gv_1, gv_2, gv_3, pv_0, pv_1, va_rf_s, Nat.reduceDiv, Nat.reduceMod, Nat.reduceAdd, Nat.reduceMul, Int.reduceToNat, true_and, and_true, and_self, cP_eq, cP_ne, cP_lt, cP_ge, cP_gt, cP_le, eL_i, eL_l, eL_r, eL_n, Option.toList_none, Option.toList_some, List.nil_append, List.cons_append, kkI, llI, nnI, rrI, jjI, kkJ, llJ, nnJ, rrJ, iiJ, zIIs, zJJs, nEF, nET, and_false, false_and, jmin, jmax, catS_n, catS_i, catS_r, catS_l, Nat.reduceLeDiff, j1eq1, n21, jt0, jt1, Bool.false_eq_true, Classical.not_not, true_or, or_true, false_or, or_false, true_imp_iff, false_imp_iff, not_true_eq_false, not_false_eq_true, jif0, jif1, jifb, ltT, ltF, leT, leF, eqT, eqF, jlt, jle, jeq, jlt0, jle0, jeq0, jge0, jgt0, jinB, jnat, clt, cle, ceq, cgt, cge, lI_add, lI_sub, lI_mul, jadd, jsub, jmul, jneg, jtol, b010, b011, pv_2t, Int.toNat_natCast, Option.some.injEq, exists_eq_left', if_true, if_false, wsF a1, a4, a10 a (by omega), e1]
        refine vs_ok 2 ?_
        rw [show ((gRes 133).drop 30).take 2 = [.iconst 0, .ireturn] from rfl]
        simp (disch := omega) only [vs_iconst, vs_ireturn, vs_nil, gv_0, gv_1, gv_2, gv_3, pv_0, pv_1, va_rf_s, Nat.reduceDiv, Nat.reduceMod, Nat.reduceAdd, Nat.reduceMul, Int.reduceToNat, true_and, and_true, and_self, cP_eq, cP_ne, cP_lt, cP_ge, cP_gt, cP_le, eL_i, eL_l, eL_r, eL_n, Option.toList_none, Option.toList_some, List.nil_append, List.cons_append, kkI, llI, nnI, rrI, jjI, kkJ, llJ, nnJ, rrJ, iiJ, zIIs, zJJs, nEF, nET, and_false, false_and, jmin, jmax, catS_n, catS_i, catS_r, catS_l, Nat.reduceLeDiff, j1eq1, n21, jt0, jt1, Bool.false_eq_true, Classical.not_not, true_or, or_true, false_or, or_false, true_imp_iff, false_imp_iff, not_true_eq_false, not_false_eq_true, jif0, jif1, jifb, ltT, ltF, leT, leF, eqT, eqF, jlt, jle, jeq, jlt0, jle0, jeq0, jge0, jgt0, jinB, jnat, clt, cle, ceq, cgt, cge, lI_add, lI_sub, lI_mul, jadd, jsub, jmul, jneg, jtol, b010, b011, pv_2t, Int.toNat_natCast, Option.some.injEq, exists_eq_left', if_true, if_false, show gRc 133 = 2 from rfl]
        exact hq0 fun z => c (z a (by omega))
  have l1 : ∀ (k i : Nat), k + i = n → PW d 133 4 [some (.ref x), some (.int (iI (f ^ i : Nat))), some (.int (iI i))] [] h Q := by
    intro k
    induction k with
    | zero =>
      intro i hk
      have e : i = n := by omega
      subst e
      refine vs_ok 4 ?_
      rw [show ((gRes 133).drop 4).take 4 = [.iload 2, .aload 0, .getfield 10070, .if_icmp .ge 15] from rfl]
      simp (disch := omega) only [vs_if_icmp, vs_getfield, vs_aload0, vs_iload2, vs_nil, gv_0, gv_1, gv_2, gv_3, pv_0, pv_1, va_rf_s, Nat.reduceDiv, Nat.reduceMod, Nat.reduceAdd, Nat.reduceMul, Int.reduceToNat, true_and, and_true, and_self, cP_eq, cP_ne, cP_lt, cP_ge, cP_gt, cP_le, eL_i, eL_l, eL_r, eL_n, Option.toList_none, Option.toList_some, List.nil_append, List.cons_append, kkI, llI, nnI, rrI, jjI, kkJ, llJ, nnJ, rrJ, iiJ, zIIs, zJJs, nEF, nET, and_false, false_and, jmin, jmax, catS_n, catS_i, catS_r, catS_l, Nat.reduceLeDiff, j1eq1, n21, jt0, jt1, Bool.false_eq_true, Classical.not_not, true_or, or_true, false_or, or_false, true_imp_iff, false_imp_iff, not_true_eq_false, not_false_eq_true, jif0, jif1, jifb, ltT, ltF, leT, leF, eqT, eqF, jlt, jle, jeq, jlt0, jle0, jeq0, jge0, jgt0, jinB, jnat, clt, cle, ceq, cgt, cge, lI_add, lI_sub, lI_mul, jadd, jsub, jmul, jneg, jtol, b010, b011, pv_2t, Int.toNat_natCast, Option.some.injEq, exists_eq_left', if_true, if_false, wsF a1, a4]
      refine vs_ok 2 ?_
      rw [show ((gRes 133).drop 15).take 2 = [.iconst 0, .istore 2] from rfl]
      simp (disch := omega) only [vs_iconst, vs_istore2n, vs_istore2i, vs_istore2r, vs_istore2l, vs_nil, gv_0, gv_1, gv_2, gv_3, pv_0, pv_1, va_rf_s, Nat.reduceDiv, Nat.reduceMod, Nat.reduceAdd, Nat.reduceMul, Int.reduceToNat, true_and, and_true, and_self, cP_eq, cP_ne, cP_lt, cP_ge, cP_gt, cP_le, eL_i, eL_l, eL_r, eL_n, Option.toList_none, Option.toList_some, List.nil_append, List.cons_append, kkI, llI, nnI, rrI, jjI, kkJ, llJ, nnJ, rrJ, iiJ, zIIs, zJJs, nEF, nET, and_false, false_and, jmin, jmax, catS_n, catS_i, catS_r, catS_l, Nat.reduceLeDiff, j1eq1, n21, jt0, jt1, Bool.false_eq_true, Classical.not_not, true_or, or_true, false_or, or_false, true_imp_iff, false_imp_iff, not_true_eq_false, not_false_eq_true, jif0, jif1, jifb, ltT, ltF, leT, leF, eqT, eqF, jlt, jle, jeq, jlt0, jle0, jeq0, jge0, jgt0, jinB, jnat, clt, cle, ceq, cgt, cge, lI_add, lI_sub, lI_mul, jadd, jsub, jmul, jneg, jtol, b010, b011, pv_2t, Int.toNat_natCast, Option.some.injEq, exists_eq_left', if_true, if_false]
      exact l2 i 0 (by omega) fun b hb => absurd hb (by omega)
    | succ k ih =>
      intro i hk
      have e1 : ((f ^ i : Nat) : Int) * (f : Int) = ((f ^ (i + 1) : Nat) : Int) := by rw [Nat.pow_succ, Int.natCast_mul]
      refine vs_ok 11 ?_
      rw [show ((gRes 133).drop 4).take 11 = [.iload 2, .aload 0, .getfield 10070, .if_icmp .ge 15, .iload 1, .aload 0, .getfield 10080, .imul, .istore 1, .iinc 2 1, .goto 4] from rfl]
      simp (disch := omega) only [vs_imul, vs_goto, vs_if_icmp, vs_getfield, vs_aload0, vs_iload1, vs_istore1n, vs_istore1i, vs_istore1r, vs_istore1l, vs_iload2, vs_iinc2n, vs_iinc2i, vs_iinc2r, vs_iinc2l, vs_nil, gv_0, gv_1, gv_2, gv_3, pv_0, pv_1, va_rf_s, Nat.reduceDiv, Nat.reduceMod, Nat.reduceAdd, Nat.reduceMul, Int.reduceToNat, true_and, and_true, and_self, cP_eq, cP_ne, cP_lt, cP_ge, cP_gt, cP_le, eL_i, eL_l, eL_r, eL_n, Option.toList_none, Option.toList_some, List.nil_append, List.cons_append, kkI, llI, nnI, rrI, jjI, kkJ, llJ, nnJ, rrJ, iiJ, zIIs, zJJs, nEF, nET, and_false, false_and, jmin, jmax, catS_n, catS_i, catS_r, catS_l, Nat.reduceLeDiff, j1eq1, n21, jt0, jt1, Bool.false_eq_true, Classical.not_not, true_or, or_true, false_or, or_false, true_imp_iff, false_imp_iff, not_true_eq_false, not_false_eq_true, jif0, jif1, jifb, ltT, ltF, leT, leF, eqT, eqF, jlt, jle, jeq, jlt0, jle0, jeq0, jge0, jgt0, jinB, jnat, clt, cle, ceq, cgt, cge, lI_add, lI_sub, lI_mul, jadd, jsub, jmul, jneg, jtol, b010, b011, pv_2t, Int.toNat_natCast, Option.some.injEq, exists_eq_left', if_true, if_false, wsF a1, a4, a5, e1]
      exact ih (i + 1) (by omega)
  refine vs_ok 4 ?_
  rw [show ((gRes 133).drop 0).take 4 = [.iconst 1, .istore 1, .iconst 0, .istore 2] from rfl]
  simp (disch := omega) only [vs_iconst, vs_istore1n, vs_istore1i, vs_istore1r, vs_istore1l, vs_istore2n, vs_istore2i, vs_istore2r, vs_istore2l, vs_nil, gv_0, gv_1, gv_2, gv_3, pv_0, pv_1, va_rf_s, Nat.reduceDiv, Nat.reduceMod, Nat.reduceAdd, Nat.reduceMul, Int.reduceToNat, true_and, and_true, and_self, cP_eq, cP_ne, cP_lt, cP_ge, cP_gt, cP_le, eL_i, eL_l, eL_r, eL_n, Option.toList_none, Option.toList_some, List.nil_append, List.cons_append, kkI, llI, nnI, rrI, jjI, kkJ, llJ, nnJ, rrJ, iiJ, zIIs, zJJs, nEF, nET, and_false, false_and, jmin, jmax, catS_n, catS_i, catS_r, catS_l, Nat.reduceLeDiff, j1eq1, n21, jt0, jt1, Bool.false_eq_true, Classical.not_not, true_or, or_true, false_or, or_false, true_imp_iff, false_imp_iff, not_true_eq_false, not_false_eq_true, jif0, jif1, jifb, ltT, ltF, leT, leF, eqT, eqF, jlt, jle, jeq, jlt0, jle0, jeq0, jge0, jgt0, jinB, jnat, clt, cle, ceq, cgt, cge, lI_add, lI_sub, lI_mul, jadd, jsub, jmul, jneg, jtol, b010, b011, pv_2t, Int.toNat_natCast, Option.some.injEq, exists_eq_left', if_true, if_false]
  exact l1 n 0 (by omega)
