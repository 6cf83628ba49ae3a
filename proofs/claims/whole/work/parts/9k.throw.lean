/-! the Model: throwTimes, greater, throwBoth, against, beats -/
theorem thrV_gW {v : RowVal} (g : gV v) : ∀ (n : Nat) (w : RowVal), n ≤ 3 → thrV v n = some w → gW (200 * ((n : Int) + 1)) w
  | 0, w, _, h => by
    have e : v = w := Option.some.inj h
    rw [← e]
    exact g.w
  | n + 1, w, hn, h => by
    have h' : (thrV v n).bind (fun w => if w.2.2.1 * v.2.2.1 ≤ 1000000000 then some (adV 0 w v) else none) = some w := h
    cases e : thrV v n with
    | none => rw [e] at h'; cases h'
    | some u =>
      rw [e] at h'
      have ih := thrV_gW g n u (by omega) e
      have h2 : (if u.2.2.1 * v.2.2.1 ≤ 1000000000 then some (adV 0 u v) else none) = some w := h'
      by_cases c : u.2.2.1 * v.2.2.1 ≤ 1000000000
      · rw [if_pos c] at h2
        have e2 : adV 0 u v = w := Option.some.inj h2
        rw [← e2]
        have := gW_ad (by omega) ih g c
        rw [show 200 * (((n + 1 : Nat) : Int) + 1) = 200 * ((n : Int) + 1) + 200 by omega]
        exact this
      · rw [if_neg c] at h2
        cases h2
theorem thrV_s {v u : RowVal} {n : Nat} (h : thrV v n = some u) : thrV v (n + 1) = if u.2.2.1 * v.2.2.1 ≤ 1000000000 then some (adV 0 u v) else none := by
  show (thrV v n).bind _ = _
  rw [h]
  rfl
theorem thrV_none {v : RowVal} {n : Nat} (h : thrV v n = none) : ∀ k, thrV v (n + k) = none
  | 0 => h
  | k + 1 => by
    show (thrV v (n + k)).bind _ = _
    rw [thrV_none h k]
    rfl
/-- what a throw of number p makes with all of W -/
abbrev cM1 (u : Int) (W : Int → Int) (p v : Int) (n : Nat) : Int := sm (fun q => if p + q = v then u * W q else 0) (-200) n
abbrev cM (U W : Int → Int) (n : Nat) (v : Int) : Int := sm (fun p => cM1 (U p) W p v 401) (-800) n
theorem sm_pick {f : Int → Int} {c lo : Int} : ∀ n : Nat, sm (fun q => if q = c then f q else 0) lo n = if lo ≤ c ∧ c < lo + n then f c else 0
  | 0 => by rw [if_neg (by omega)]; rfl
  | n + 1 => by
    show sm (fun q => if q = c then f q else 0) lo n + (if lo + n = c then f (lo + n) else 0) = _
    rw [sm_pick n]
    by_cases h : lo + n = c
    · rw [if_pos h, if_neg (by omega), if_pos (by omega), h]
      omega
    · rw [if_neg h]
      by_cases h2 : lo ≤ c ∧ c < lo + n
      · rw [if_pos h2, if_pos (by omega)]
        omega
      · rw [if_neg h2, if_neg (by omega)]
        omega
theorem cM1_e {u : Int} {W : Int → Int} (hW : spt W 200) (p v : Int) : cM1 u W p v 401 = u * W (v - p) := by
  have e : (fun q => if p + q = v then u * W q else 0) = fun q => if q = v - p then u * W q else 0 := funext fun q => by
    by_cases c : p + q = v
    · rw [if_pos c, if_pos (by omega)]
    · rw [if_neg c, if_neg (by omega)]
  show sm (fun q => if p + q = v then u * W q else 0) (-200) 401 = _
  rw [e, sm_pick]
  by_cases c : -200 ≤ v - p ∧ v - p < -200 + (401 : Nat)
  · rw [if_pos c]
  · rw [if_neg c, hW (v - p) (by omega), Int.mul_zero]
theorem cM_e {U W : Int → Int} (hU : spt U 800) (hW : spt W 200) (v : Int) : cM U W 1601 v = cvW 0 U W v := by
  show sm (fun p => cM1 (U p) W p v 401) (-800) 1601 = pS (fun i => U i * W (sg 0 i v)) 1000
  rw [show (fun p => cM1 (U p) W p v 401) = fun i => U i * W (sg 0 i v) from funext fun p => by rw [cM1_e hW]; unfold sg; rw [if_pos rfl]]
  exact (sm_spt (b := 800) (lo := -1000) (fun m hm => by
    show U m * _ = 0
    rw [hU m hm, Int.zero_mul]) (by omega) (by omega) (by omega)).symm
/-- row `to` of what is thrown -/
def wdW (h : Hp) (m to : Nat) (W : Int → Int) : Prop := ∀ v, v < 1601 → zJ h (m + 13) (1601 * to + v) = lI (W ((v : Int) - 800))
/-- g is h but for row `to` of what is thrown, and the row in the making -/
def wdC (h g : Hp) (m to : Nat) : Prop := fi (fun q => q = m + 13 ∨ q = m + 14) h g ∧ zI g = zI h ∧ ∀ j, ¬ (1601 * to ≤ j ∧ j < 1601 * to + 1601) → zJ g (m + 13) j = zJ h (m + 13) j
theorem wdC.rf {h : Hp} {m to : Nat} : wdC h h m to := ⟨fi.rf, rfl, fun _ _ => rfl⟩
theorem wdC.tr {a b c : Hp} {m to : Nat} (x : wdC a b m to) (y : wdC b c m to) : wdC a c m to := ⟨x.1.tr y.1, by rw [y.2.1, x.2.1], fun j hj => by rw [y.2.2 j hj, x.2.2 j hj]⟩
theorem wdC.J {h g : Hp} {m to j : Nat} {v : Int64} (c : wdC h g m to) (hj : 1601 * to ≤ j ∧ j < 1601 * to + 1601) : wdC h (zsJ g (m + 13) j v) m to := ⟨c.1.J (Or.inl rfl), c.2.1, fun i hi => by rw [zJ_sJ, if_neg (by omega)]; exact c.2.2 i hi⟩
theorem wdC.M {h g : Hp} {m to j : Nat} {v : Int64} (c : wdC h g m to) : wdC h (zsJ g (m + 14) j v) m to := ⟨c.1.J (Or.inr rfl), c.2.1, fun i hi => by rw [zJ_sJ, if_neg (by omega)]; exact c.2.2 i hi⟩
theorem wdC.o {h g : Hp} {m to o : Nat} {W : Int → Int} (c : wdC h g m to) (w : wdW h m o W) (ho : o ≠ to) : wdW g m o W := fun v hv => by rw [c.2.2 _ (by omega)]; exact w v hv
theorem t_M_throwTimes {d : Nat} {h : Hp} {m a to k : Nat} {v : RowVal} {Q : Nat → Option Value → Hp → Prop} (hm : mO h m) (ha : a < 12) (hk : 1 ≤ k ∧ k ≤ 4) (hto : to ≤ 1) (wa : slV h m a v) (ga : gV v)
    (q0 : thrV v (k - 1) = none → Q 0 (some (.int (iI 0))) h)
    (q1 : ∀ w, thrV v (k - 1) = some w → gW 800 w → ∀ g, wdC h g m to → wdW g m to w.2.2.2 → Q 0 (some (.int (iI 1))) g) : PR d m_M_throwTimes [.ref m, .int (iI a), .int (iI k), .int (iI to)] h Q := by
  have M := hm.k
  have A3 := hm.alls
  have a2 := wa.2
  have g6 := ga.2.2.2.2.2
  show PW d 222 0 [some (.ref m), some (.int (iI a)), some (.int (iI k)), some (.int (iI to)), none, none, none, none, none, none, none] [] h Q
  -- all of k throws
  have l1 : ∀ (j i : Nat) (x : Int), j + i = k → (i = 0 ∧ x = 1 ∨ 1 ≤ i ∧ ∃ w, thrV v (i - 1) = some w ∧ x = w.2.2.1) → (∀ (x : Int) (w : RowVal), thrV v (k - 1) = some w → PW d 222 22 [some (.ref m), some (.int (iI a)), some (.int (iI k)), some (.int (iI to)), some (.long (lI x)), none, some (.int (iI k)), none, none, none, none] [] h Q) → PW d 222 4 [some (.ref m), some (.int (iI a)), some (.int (iI k)), some (.int (iI to)), some (.long (lI x)), none, some (.int (iI i)), none, none, none, none] [] h Q := by
    intro j
    induction j with
    | zero =>
      intro i x hi hx K
      have e : i = k := by omega
      subst e
      rcases hx with hx | ⟨-, w, hw, -⟩
      · omega
      · refine vs_ok 3 ?_
        rw [show ((gRes 222).drop 4).take 3 = [.iload 6, .iload 2, .if_icmp .ge 22] from rfl]
        simp (disch := omega) only [vs_if_icmp, vs_iload2, vs_iload6, vs_nil, gv_0, gv_1, gv_2, gv_3, pv_0, pv_1, va_rf_s, Nat.reduceDiv, Nat.reduceMod, Nat.reduceAdd, Nat.reduceMul, Int.reduceToNat, true_and, and_true, and_self, cP_eq, cP_ne, cP_lt, cP_ge, cP_gt, cP_le, eL_i, eL_l, eL_r, eL_n, Option.toList_none, Option.toList_some, List.nil_append, List.cons_append, kkI, llI, nnI, rrI, jjI, kkJ, llJ, nnJ, rrJ, iiJ, zIIs, zJJs, nEF, nET, and_false, false_and, jmin, jmax, catS_n, catS_i, catS_r, catS_l, Nat.reduceLeDiff, j1eq1, n21, jt0, jt1, Bool.false_eq_true, Classical.not_not, true_or, or_true, false_or, or_false, true_imp_iff, false_imp_iff, not_true_eq_false, not_false_eq_true, jif0, jif1, jifb, ltT, ltF, leT, leF, eqT, eqF, jlt, jle, jeq, jlt0, jle0, jeq0, jge0, jgt0, jinB, jnat, clt, cle, ceq, cgt, cge, lI_add, lI_sub, lI_mul, jadd, jsub, jmul, jneg, jtol, b010, b011, pv_2t, Int.toNat_natCast, Option.some.injEq, exists_eq_left', if_true, if_false]
        exact K x w hw
    | succ j ih =>
      intro i x hi hx K
      rcases hx with ⟨rfl, rfl⟩ | ⟨h1, w, hw, rfl⟩
      · refine vs_ok 3 ?_
        rw [show ((gRes 222).drop 4).take 3 = [.iload 6, .iload 2, .if_icmp .ge 22] from rfl]
        simp (disch := omega) only [vs_if_icmp, vs_iload2, vs_iload6, vs_nil, gv_0, gv_1, gv_2, gv_3, pv_0, pv_1, va_rf_s, Nat.reduceDiv, Nat.reduceMod, Nat.reduceAdd, Nat.reduceMul, Int.reduceToNat, true_and, and_true, and_self, cP_eq, cP_ne, cP_lt, cP_ge, cP_gt, cP_le, eL_i, eL_l, eL_r, eL_n, Option.toList_none, Option.toList_some, List.nil_append, List.cons_append, kkI, llI, nnI, rrI, jjI, kkJ, llJ, nnJ, rrJ, iiJ, zIIs, zJJs, nEF, nET, and_false, false_and, jmin, jmax, catS_n, catS_i, catS_r, catS_l, Nat.reduceLeDiff, j1eq1, n21, jt0, jt1, Bool.false_eq_true, Classical.not_not, true_or, or_true, false_or, or_false, true_imp_iff, false_imp_iff, not_true_eq_false, not_false_eq_true, jif0, jif1, jifb, ltT, ltF, leT, leF, eqT, eqF, jlt, jle, jeq, jlt0, jle0, jeq0, jge0, jgt0, jinB, jnat, clt, cle, ceq, cgt, cge, lI_add, lI_sub, lI_mul, jadd, jsub, jmul, jneg, jtol, b010, b011, pv_2t, Int.toNat_natCast, Option.some.injEq, exists_eq_left', if_true, if_false]
        refine vs_ok 11 ?_
        rw [show ((gRes 222).drop 7).take 11 = [.lload 4, .aload 0, .getfield 12062, .iload 1, .laload, .lmul, .lstore 4, .lload 4, .jsr_w 1000000000, .lcmp, .ifCond .le 20] from rfl]
        simp (disch := omega) only [vs_lmul, vs_lcmp, vs_jsr_w, vs_ifCond, vs_getfield, vs_laload, vs_aload0, vs_iload1, vs_lload4, vs_lstore4n, vs_lstore4i, vs_lstore4r, vs_lstore4l, vs_nil, gv_0, gv_1, gv_2, gv_3, pv_0, pv_1, va_rf_s, Nat.reduceDiv, Nat.reduceMod, Nat.reduceAdd, Nat.reduceMul, Int.reduceToNat, true_and, and_true, and_self, cP_eq, cP_ne, cP_lt, cP_ge, cP_gt, cP_le, eL_i, eL_l, eL_r, eL_n, Option.toList_none, Option.toList_some, List.nil_append, List.cons_append, kkI, llI, nnI, rrI, jjI, kkJ, llJ, nnJ, rrJ, iiJ, zIIs, zJJs, nEF, nET, and_false, false_and, jmin, jmax, catS_n, catS_i, catS_r, catS_l, Nat.reduceLeDiff, j1eq1, n21, jt0, jt1, Bool.false_eq_true, Classical.not_not, true_or, or_true, false_or, or_false, true_imp_iff, false_imp_iff, not_true_eq_false, not_false_eq_true, jif0, jif1, jifb, ltT, ltF, leT, leF, eqT, eqF, jlt, jle, jeq, jlt0, jle0, jeq0, jge0, jgt0, jinB, jnat, clt, cle, ceq, cgt, cge, lI_add, lI_sub, lI_mul, jadd, jsub, jmul, jneg, jtol, b010, b011, pv_2t, Int.toNat_natCast, Option.some.injEq, exists_eq_left', if_true, if_false, M, A3, a2]
        refine vs_ok 2 ?_
        rw [show ((gRes 222).drop 20).take 2 = [.iinc 6 1, .goto 4] from rfl]
        simp (disch := omega) only [vs_goto, vs_iinc6n, vs_iinc6i, vs_iinc6r, vs_iinc6l, vs_nil, gv_0, gv_1, gv_2, gv_3, pv_0, pv_1, va_rf_s, Nat.reduceDiv, Nat.reduceMod, Nat.reduceAdd, Nat.reduceMul, Int.reduceToNat, true_and, and_true, and_self, cP_eq, cP_ne, cP_lt, cP_ge, cP_gt, cP_le, eL_i, eL_l, eL_r, eL_n, Option.toList_none, Option.toList_some, List.nil_append, List.cons_append, kkI, llI, nnI, rrI, jjI, kkJ, llJ, nnJ, rrJ, iiJ, zIIs, zJJs, nEF, nET, and_false, false_and, jmin, jmax, catS_n, catS_i, catS_r, catS_l, Nat.reduceLeDiff, j1eq1, n21, jt0, jt1, Bool.false_eq_true, Classical.not_not, true_or, or_true, false_or, or_false, true_imp_iff, false_imp_iff, not_true_eq_false, not_false_eq_true, jif0, jif1, jifb, ltT, ltF, leT, leF, eqT, eqF, jlt, jle, jeq, jlt0, jle0, jeq0, jge0, jgt0, jinB, jnat, clt, cle, ceq, cgt, cge, lI_add, lI_sub, lI_mul, jadd, jsub, jmul, jneg, jtol, b010, b011, pv_2t, Int.toNat_natCast, Option.some.injEq, exists_eq_left', if_true, if_false]
        exact ih 1 _ (by omega) (Or.inr ⟨Nat.le_refl _, v, rfl, by rw [Int.one_mul]⟩) K
      · have gw := thrV_gW ga (i - 1) w (by omega) hw
        have w6 := gw.2.2.2.2
        have s := thrV_s hw
        rw [show i - 1 + 1 = i by omega] at s
        have p0 := Int.mul_nonneg (show 0 ≤ w.2.2.1 by omega) (show 0 ≤ v.2.2.1 by omega)
        have p1 := Int.mul_le_mul w6.2 g6.2 (show 0 ≤ v.2.2.1 by omega) (by omega)
        by_cases c : w.2.2.1 * v.2.2.1 ≤ 1000000000
        · rw [if_pos c] at s
          have nx := fun x hx => ih (i + 1) x (by omega) (Or.inr ⟨by omega, adV 0 w v, s, hx⟩) K
          have nx := nx (w.2.2.1 * v.2.2.1) rfl
          generalize hX : w.2.2.1 * v.2.2.1 = X at *
          refine vs_ok 3 ?_
          rw [show ((gRes 222).drop 4).take 3 = [.iload 6, .iload 2, .if_icmp .ge 22] from rfl]
          simp (disch := omega) only [vs_if_icmp, vs_iload2, vs_iload6, vs_nil, gv_0, gv_1, gv_2, gv_3, pv_0, pv_1, va_rf_s, Nat.reduceDiv, Nat.reduceMod, Nat.reduceAdd, Nat.reduceMul, Int.reduceToNat, true_and, and_true, and_self, cP_eq, cP_ne, cP_lt, cP_ge, cP_gt, cP_le, eL_i, eL_l, eL_r, eL_n, Option.toList_none, Option.toList_some, List.nil_append, List.cons_append, kkI, llI, nnI, rrI, jjI, kkJ, llJ, nnJ, rrJ, iiJ, zIIs, zJJs, nEF, nET, and_false, false_and, jmin, jmax, catS_n, catS_i, catS_r, catS_l, Nat.reduceLeDiff, j1eq1, n21, jt0, jt1, Bool.false_eq_true, Classical.not_not, true_or, or_true, false_or, or_false, true_imp_iff, false_imp_iff, not_true_eq_false, not_false_eq_true, jif0, jif1, jifb, ltT, ltF, leT, leF, eqT, eqF, jlt, jle, jeq, jlt0, jle0, jeq0, jge0, jgt0, jinB, jnat, clt, cle, ceq, cgt, cge, lI_add, lI_sub, lI_mul, jadd, jsub, jmul, jneg, jtol, b010, b011, pv_2t, Int.toNat_natCast, Option.some.injEq, exists_eq_left', if_true, if_false]
          refine vs_ok 11 ?_
          rw [show ((gRes 222).drop 7).take 11 = [.lload 4, .aload 0, .getfield 12062, .iload 1, .laload, .lmul, .lstore 4, .lload 4, .jsr_w 1000000000, .lcmp, .ifCond .le 20] from rfl]
          simp (disch := omega) only [vs_lmul, vs_lcmp, vs_jsr_w, vs_ifCond, vs_getfield, vs_laload, vs_aload0, vs_iload1, vs_lload4, vs_lstore4n, vs_lstore4i, vs_lstore4r, vs_lstore4l, vs_nil, gv_0, gv_1, gv_2, gv_3, pv_0, pv_1, va_rf_s, Nat.reduceDiv, Nat.reduceMod, Nat.reduceAdd, Nat.reduceMul, Int.reduceToNat, true_and, and_true, and_self, cP_eq, cP_ne, cP_lt, cP_ge, cP_gt, cP_le, eL_i, eL_l, eL_r, eL_n, Option.toList_none, Option.toList_some, List.nil_append, List.cons_append, kkI, llI, nnI, rrI, jjI, kkJ, llJ, nnJ, rrJ, iiJ, zIIs, zJJs, nEF, nET, and_false, false_and, jmin, jmax, catS_n, catS_i, catS_r, catS_l, Nat.reduceLeDiff, j1eq1, n21, jt0, jt1, Bool.false_eq_true, Classical.not_not, true_or, or_true, false_or, or_false, true_imp_iff, false_imp_iff, not_true_eq_false, not_false_eq_true, jif0, jif1, jifb, ltT, ltF, leT, leF, eqT, eqF, jlt, jle, jeq, jlt0, jle0, jeq0, jge0, jgt0, jinB, jnat, clt, cle, ceq, cgt, cge, lI_add, lI_sub, lI_mul, jadd, jsub, jmul, jneg, jtol, b010, b011, pv_2t, Int.toNat_natCast, Option.some.injEq, exists_eq_left', if_true, if_false, M, A3, a2, hX]
          refine vs_ok 2 ?_
          rw [show ((gRes 222).drop 20).take 2 = [.iinc 6 1, .goto 4] from rfl]
          simp (disch := omega) only [vs_goto, vs_iinc6n, vs_iinc6i, vs_iinc6r, vs_iinc6l, vs_nil, gv_0, gv_1, gv_2, gv_3, pv_0, pv_1, va_rf_s, Nat.reduceDiv, Nat.reduceMod, Nat.reduceAdd, Nat.reduceMul, Int.reduceToNat, true_and, and_true, and_self, cP_eq, cP_ne, cP_lt, cP_ge, cP_gt, cP_le, eL_i, eL_l, eL_r, eL_n, Option.toList_none, Option.toList_some, List.nil_append, List.cons_append, kkI, llI, nnI, rrI, jjI, kkJ, llJ, nnJ, rrJ, iiJ, zIIs, zJJs, nEF, nET, and_false, false_and, jmin, jmax, catS_n, catS_i, catS_r, catS_l, Nat.reduceLeDiff, j1eq1, n21, jt0, jt1, Bool.false_eq_true, Classical.not_not, true_or, or_true, false_or, or_false, true_imp_iff, false_imp_iff, not_true_eq_false, not_false_eq_true, jif0, jif1, jifb, ltT, ltF, leT, leF, eqT, eqF, jlt, jle, jeq, jlt0, jle0, jeq0, jge0, jgt0, jinB, jnat, clt, cle, ceq, cgt, cge, lI_add, lI_sub, lI_mul, jadd, jsub, jmul, jneg, jtol, b010, b011, pv_2t, Int.toNat_natCast, Option.some.injEq, exists_eq_left', if_true, if_false]
          exact nx
        · rw [if_neg c] at s
          have no := thrV_none s (k - 1 - i)
          rw [show i + (k - 1 - i) = k - 1 by omega] at no
          generalize hX : w.2.2.1 * v.2.2.1 = X at *
          refine vs_ok 3 ?_
          rw [show ((gRes 222).drop 4).take 3 = [.iload 6, .iload 2, .if_icmp .ge 22] from rfl]
          simp (disch := omega) only [vs_if_icmp, vs_iload2, vs_iload6, vs_nil, gv_0, gv_1, gv_2, gv_3, pv_0, pv_1, va_rf_s, Nat.reduceDiv, Nat.reduceMod, Nat.reduceAdd, Nat.reduceMul, Int.reduceToNat, true_and, and_true, and_self, cP_eq, cP_ne, cP_lt, cP_ge, cP_gt, cP_le, eL_i, eL_l, eL_r, eL_n, Option.toList_none, Option.toList_some, List.nil_append, List.cons_append, kkI, llI, nnI, rrI, jjI, kkJ, llJ, nnJ, rrJ, iiJ, zIIs, zJJs, nEF, nET, and_false, false_and, jmin, jmax, catS_n, catS_i, catS_r, catS_l, Nat.reduceLeDiff, j1eq1, n21, jt0, jt1, Bool.false_eq_true, Classical.not_not, true_or, or_true, false_or, or_false, true_imp_iff, false_imp_iff, not_true_eq_false, not_false_eq_true, jif0, jif1, jifb, ltT, ltF, leT, leF, eqT, eqF, jlt, jle, jeq, jlt0, jle0, jeq0, jge0, jgt0, jinB, jnat, clt, cle, ceq, cgt, cge, lI_add, lI_sub, lI_mul, jadd, jsub, jmul, jneg, jtol, b010, b011, pv_2t, Int.toNat_natCast, Option.some.injEq, exists_eq_left', if_true, if_false]
          refine vs_ok 11 ?_
          rw [show ((gRes 222).drop 7).take 11 = [.lload 4, .aload 0, .getfield 12062, .iload 1, .laload, .lmul, .lstore 4, .lload 4, .jsr_w 1000000000, .lcmp, .ifCond .le 20] from rfl]
          simp (disch := omega) only [vs_lmul, vs_lcmp, vs_jsr_w, vs_ifCond, vs_getfield, vs_laload, vs_aload0, vs_iload1, vs_lload4, vs_lstore4n, vs_lstore4i, vs_lstore4r, vs_lstore4l, vs_nil, gv_0, gv_1, gv_2, gv_3, pv_0, pv_1, va_rf_s, Nat.reduceDiv, Nat.reduceMod, Nat.reduceAdd, Nat.reduceMul, Int.reduceToNat, true_and, and_true, and_self, cP_eq, cP_ne, cP_lt, cP_ge, cP_gt, cP_le, eL_i, eL_l, eL_r, eL_n, Option.toList_none, Option.toList_some, List.nil_append, List.cons_append, kkI, llI, nnI, rrI, jjI, kkJ, llJ, nnJ, rrJ, iiJ, zIIs, zJJs, nEF, nET, and_false, false_and, jmin, jmax, catS_n, catS_i, catS_r, catS_l, Nat.reduceLeDiff, j1eq1, n21, jt0, jt1, Bool.false_eq_true, Classical.not_not, true_or, or_true, false_or, or_false, true_imp_iff, false_imp_iff, not_true_eq_false, not_false_eq_true, jif0, jif1, jifb, ltT, ltF, leT, leF, eqT, eqF, jlt, jle, jeq, jlt0, jle0, jeq0, jge0, jgt0, jinB, jnat, clt, cle, ceq, cgt, cge, lI_add, lI_sub, lI_mul, jadd, jsub, jmul, jneg, jtol, b010, b011, pv_2t, Int.toNat_natCast, Option.some.injEq, exists_eq_left', if_true, if_false, M, A3, a2, hX]
          refine vs_ok 2 ?_
          rw [show ((gRes 222).drop 18).take 2 = [.iconst 0, .ireturn] from rfl]
          simp (disch := omega) only [vs_iconst, vs_ireturn, vs_nil, gv_0, gv_1, gv_2, gv_3, pv_0, pv_1, va_rf_s, Nat.reduceDiv, Nat.reduceMod, Nat.reduceAdd, Nat.reduceMul, Int.reduceToNat, true_and, and_true, and_self, cP_eq, cP_ne, cP_lt, cP_ge, cP_gt, cP_le, eL_i, eL_l, eL_r, eL_n, Option.toList_none, Option.toList_some, List.nil_append, List.cons_append, kkI, llI, nnI, rrI, jjI, kkJ, llJ, nnJ, rrJ, iiJ, zIIs, zJJs, nEF, nET, and_false, false_and, jmin, jmax, catS_n, catS_i, catS_r, catS_l, Nat.reduceLeDiff, j1eq1, n21, jt0, jt1, Bool.false_eq_true, Classical.not_not, true_or, or_true, false_or, or_false, true_imp_iff, false_imp_iff, not_true_eq_false, not_false_eq_true, jif0, jif1, jifb, ltT, ltF, leT, leF, eqT, eqF, jlt, jle, jeq, jlt0, jle0, jeq0, jge0, jgt0, jinB, jnat, clt, cle, ceq, cgt, cge, lI_add, lI_sub, lI_mul, jadd, jsub, jmul, jneg, jtol, b010, b011, pv_2t, Int.toNat_natCast, Option.some.injEq, exists_eq_left', if_true, if_false, show gRc 222 = 2 from rfl]
          exact q0 no
  refine vs_ok 4 ?_
  rw [show ((gRes 222).drop 0).take 4 = [.jsr_w 1, .lstore 4, .iconst 0, .istore 6] from rfl]
  simp (disch := omega) only [vs_iconst, vs_jsr_w, vs_lstore4n, vs_lstore4i, vs_lstore4r, vs_lstore4l, vs_istore6n, vs_istore6i, vs_istore6r, vs_istore6l, vs_nil, gv_0, gv_1, gv_2, gv_3, pv_0, pv_1, va_rf_s, Nat.reduceDiv, Nat.reduceMod, Nat.reduceAdd, Nat.reduceMul, Int.reduceToNat, true_and, and_true, and_self, cP_eq, cP_ne, cP_lt, cP_ge, cP_gt, cP_le, eL_i, eL_l, eL_r, eL_n, Option.toList_none, Option.toList_some, List.nil_append, List.cons_append, kkI, llI, nnI, rrI, jjI, kkJ, llJ, nnJ, rrJ, iiJ, zIIs, zJJs, nEF, nET, and_false, false_and, jmin, jmax, catS_n, catS_i, catS_r, catS_l, Nat.reduceLeDiff, j1eq1, n21, jt0, jt1, Bool.false_eq_true, Classical.not_not, true_or, or_true, false_or, or_false, true_imp_iff, false_imp_iff, not_true_eq_false, not_false_eq_true, jif0, jif1, jifb, ltT, ltF, leT, leF, eqT, eqF, jlt, jle, jeq, jlt0, jle0, jeq0, jge0, jgt0, jinB, jnat, clt, cle, ceq, cgt, cge, lI_add, lI_sub, lI_mul, jadd, jsub, jmul, jneg, jtol, b010, b011, pv_2t, Int.toNat_natCast, Option.some.injEq, exists_eq_left', if_true, if_false]
  refine l1 k 0 1 (by omega) (Or.inl ⟨rfl, rfl⟩) fun x w hw => ?_
  have gw := thrV_gW ga (k - 1) w (by omega) hw
  have gw8 : gW 800 w := ⟨by have := gw.1; omega, gw.2⟩
  have q1w := q1 w hw gw8
  -- U i: what i throws make
  have ex : ∃ U : Nat → Int → Int, (∀ p, U 0 p = if p = 0 then 1 else 0) ∧ U 1 = v.2.2.2 ∧ U k = w.2.2.2 ∧ (∀ i, i < k → ∀ p, U (i + 1) p = cvW 0 (U i) v.2.2.2 p) ∧ ∀ i, i ≤ k → spt (U i) (200 * (i : Int)) ∧ ∀ p, 0 ≤ U i p ∧ U i p ≤ 1000000000 := by
    have sm' : ∀ i, i < k → ∃ u, thrV v i = some u := fun i hi => by
      cases e : thrV v i with
      | none =>
        have := thrV_none e (k - 1 - i)
        rw [show i + (k - 1 - i) = k - 1 by omega, hw] at this
        cases this
      | some u => exact ⟨u, rfl⟩
    refine ⟨fun i p => if i = 0 then (if p = 0 then 1 else 0) else ((thrV v (i - 1)).getD v).2.2.2 p, fun p => rfl, rfl, ?_, fun i hi p => ?_, fun i hi => ?_⟩
    · funext p
      show (if k = 0 then (if p = 0 then (1 : Int) else 0) else ((thrV v (k - 1)).getD v).2.2.2 p) = _
      rw [if_neg (by omega), hw]
      rfl
    · dsimp only
      rw [if_neg (by omega), show i + 1 - 1 = i by omega]
      by_cases c : i = 0
      · subst c
        show v.2.2.2 p = pS (fun j => (if j = 0 then 1 else 0) * v.2.2.2 (sg 0 j p)) 1000
        have e : (fun j : Int => (if j = 0 then (1 : Int) else 0) * v.2.2.2 (sg 0 j p)) = fun q => if q = 0 then v.2.2.2 (p - q) else 0 := funext fun q => by
          unfold sg
          by_cases y : q = 0
          · rw [if_pos y, if_pos y, Int.one_mul, if_pos rfl]
          · rw [if_neg y, if_neg y, Int.zero_mul]
        rw [e]
        show _ = sm (fun q => if q = 0 then v.2.2.2 (p - q) else 0) (-1000) 2000
        rw [sm_pick, if_pos (by omega), Int.sub_zero]
      · obtain ⟨u, hu⟩ := sm' (i - 1) (by omega)
        obtain ⟨u2, hu2⟩ := sm' i hi
        have s := thrV_s hu
        rw [show i - 1 + 1 = i by omega, hu2] at s
        have e2 : u2 = adV 0 u v := by
          split at s
          · exact Option.some.inj s
          · cases s
        rw [hu2, e2]
        simp only [if_neg c]
        rw [hu]
        rfl
    · by_cases c : i = 0
      · subst c
        refine ⟨fun p hp => ?_, fun p => ?_⟩
        · dsimp only
          rw [if_pos rfl, if_neg (by omega)]
        · dsimp only
          rw [if_pos rfl]
          split <;> omega
      · obtain ⟨u, hu⟩ := sm' (i - 1) (by omega)
        have gu := thrV_gW ga (i - 1) u (by omega) hu
        have b1 := gu.1
        refine ⟨fun p hp => ?_, fun p => ?_⟩
        · dsimp only
          rw [if_neg c, hu]
          exact gu.2.2.1 p (by omega)
        · dsimp only
          rw [if_neg c, hu]
          refine ⟨gu.2.1 p, ?_⟩
          show u.2.2.2 p ≤ 1000000000
          have := gu.2.2.2.2
          by_cases y : -1000 ≤ p ∧ p < 1000
          · have := tS_ge gu.2.1 y.1 y.2
            have := gu.2.2.2.1
            omega
          · rw [gu.2.2.1 p (by omega)]
            omega
  obtain ⟨U, U0, U1, Uk, Us, Ub⟩ := ex
  have vz := ga.spt
  have vn := ga.2.1
  have vl := ga.le
  have e16 : ∀ (i : Nat), (1601 : Int) * (to : Int) + (i : Int) = ((1601 * to + i : Nat) : Int) := fun i => by omega
  have e4 : ∀ (i : Nat), (401 : Int) * (a : Int) + (i : Int) = ((401 * a + i : Nat) : Int) := fun i => by omega
  -- the rounds
  have rd : ∀ (j i : Nat) (o7 o8 o9 o10 : Option Value) (g : Hp), j + i = k → wdC h g m to → wdW g m to (U i) → PW d 222 45 [some (.ref m), some (.int (iI a)), some (.int (iI k)), some (.int (iI to)), some (.long (lI x)), none, some (.int (iI i)), o7, o8, o9, o10] [] g Q := by
    intro j
    induction j with
    | zero =>
      intro i o7 o8 o9 o10 g hi f w0
      have e : i = k := by omega
      subst e
      rw [Uk] at w0
      refine vs_ok 3 ?_
      rw [show ((gRes 222).drop 45).take 3 = [.iload 6, .iload 2, .if_icmp .ge 140] from rfl]
      simp (disch := omega) only [vs_if_icmp, vs_iload2, vs_iload6, vs_nil, gv_0, gv_1, gv_2, gv_3, pv_0, pv_1, va_rf_s, Nat.reduceDiv, Nat.reduceMod, Nat.reduceAdd, Nat.reduceMul, Int.reduceToNat, true_and, and_true, and_self, cP_eq, cP_ne, cP_lt, cP_ge, cP_gt, cP_le, eL_i, eL_l, eL_r, eL_n, Option.toList_none, Option.toList_some, List.nil_append, List.cons_append, kkI, llI, nnI, rrI, jjI, kkJ, llJ, nnJ, rrJ, iiJ, zIIs, zJJs, nEF, nET, and_false, false_and, jmin, jmax, catS_n, catS_i, catS_r, catS_l, Nat.reduceLeDiff, j1eq1, n21, jt0, jt1, Bool.false_eq_true, Classical.not_not, true_or, or_true, false_or, or_false, true_imp_iff, false_imp_iff, not_true_eq_false, not_false_eq_true, jif0, jif1, jifb, ltT, ltF, leT, leF, eqT, eqF, jlt, jle, jeq, jlt0, jle0, jeq0, jge0, jgt0, jinB, jnat, clt, cle, ceq, cgt, cge, lI_add, lI_sub, lI_mul, jadd, jsub, jmul, jneg, jtol, b010, b011, pv_2t, Int.toNat_natCast, Option.some.injEq, exists_eq_left', if_true, if_false]
      refine vs_ok 2 ?_
      rw [show ((gRes 222).drop 140).take 2 = [.iconst 1, .ireturn] from rfl]
      simp (disch := omega) only [vs_iconst, vs_ireturn, vs_nil, gv_0, gv_1, gv_2, gv_3, pv_0, pv_1, va_rf_s, Nat.reduceDiv, Nat.reduceMod, Nat.reduceAdd, Nat.reduceMul, Int.reduceToNat, true_and, and_true, and_self, cP_eq, cP_ne, cP_lt, cP_ge, cP_gt, cP_le, eL_i, eL_l, eL_r, eL_n, Option.toList_none, Option.toList_some, List.nil_append, List.cons_append, kkI, llI, nnI, rrI, jjI, kkJ, llJ, nnJ, rrJ, iiJ, zIIs, zJJs, nEF, nET, and_false, false_and, jmin, jmax, catS_n, catS_i, catS_r, catS_l, Nat.reduceLeDiff, j1eq1, n21, jt0, jt1, Bool.false_eq_true, Classical.not_not, true_or, or_true, false_or, or_false, true_imp_iff, false_imp_iff, not_true_eq_false, not_false_eq_true, jif0, jif1, jifb, ltT, ltF, leT, leF, eqT, eqF, jlt, jle, jeq, jlt0, jle0, jeq0, jge0, jgt0, jinB, jnat, clt, cle, ceq, cgt, cge, lI_add, lI_sub, lI_mul, jadd, jsub, jmul, jneg, jtol, b010, b011, pv_2t, Int.toNat_natCast, Option.some.injEq, exists_eq_left', if_true, if_false, show gRc 222 = 2 from rfl]
      exact q1w g f w0
    | succ j ih =>
      intro i o7 o8 o9 o10 g hi f w0
      obtain ⟨us, un⟩ := Ub i (by omega)
      have us8 : spt (U i) 800 := us.up (by omega)
      -- the row made is laid
      have l5 : ∀ (j2 c : Nat) (g2 : Hp), j2 + c = 1601 → wdC h g2 m to → (∀ q, q < 1601 → zJ g2 (m + 14) q = lI (U (i + 1) ((q : Int) - 800))) → (∀ q, q < c → zJ g2 (m + 13) (1601 * to + q) = lI (U (i + 1) ((q : Int) - 800))) → ∀ o8 o9 o10, PW d 222 121 [some (.ref m), some (.int (iI a)), some (.int (iI k)), some (.int (iI to)), some (.long (lI x)), none, some (.int (iI i)), some (.int (iI c)), o8, o9, o10] [] g2 Q := by
        intro j2
        induction j2 with
        | zero =>
          intro c g2 hc f2 hM hW o8 o9 o10
          have e : c = 1601 := by omega
          subst e
          refine vs_ok 3 ?_
          rw [show ((gRes 222).drop 121).take 3 = [.iload 7, .iconst 1601, .if_icmp .ge 138] from rfl]
          simp (disch := omega) only [vs_iconst, vs_if_icmp, vs_iload7, vs_nil, gv_0, gv_1, gv_2, gv_3, pv_0, pv_1, va_rf_s, Nat.reduceDiv, Nat.reduceMod, Nat.reduceAdd, Nat.reduceMul, Int.reduceToNat, true_and, and_true, and_self, cP_eq, cP_ne, cP_lt, cP_ge, cP_gt, cP_le, eL_i, eL_l, eL_r, eL_n, Option.toList_none, Option.toList_some, List.nil_append, List.cons_append, kkI, llI, nnI, rrI, jjI, kkJ, llJ, nnJ, rrJ, iiJ, zIIs, zJJs, nEF, nET, and_false, false_and, jmin, jmax, catS_n, catS_i, catS_r, catS_l, Nat.reduceLeDiff, j1eq1, n21, jt0, jt1, Bool.false_eq_true, Classical.not_not, true_or, or_true, false_or, or_false, true_imp_iff, false_imp_iff, not_true_eq_false, not_false_eq_true, jif0, jif1, jifb, ltT, ltF, leT, leF, eqT, eqF, jlt, jle, jeq, jlt0, jle0, jeq0, jge0, jgt0, jinB, jnat, clt, cle, ceq, cgt, cge, lI_add, lI_sub, lI_mul, jadd, jsub, jmul, jneg, jtol, b010, b011, pv_2t, Int.toNat_natCast, Option.some.injEq, exists_eq_left', if_true, if_false]
          refine vs_ok 2 ?_
          rw [show ((gRes 222).drop 138).take 2 = [.iinc 6 1, .goto 45] from rfl]
          simp (disch := omega) only [vs_goto, vs_iinc6n, vs_iinc6i, vs_iinc6r, vs_iinc6l, vs_nil, gv_0, gv_1, gv_2, gv_3, pv_0, pv_1, va_rf_s, Nat.reduceDiv, Nat.reduceMod, Nat.reduceAdd, Nat.reduceMul, Int.reduceToNat, true_and, and_true, and_self, cP_eq, cP_ne, cP_lt, cP_ge, cP_gt, cP_le, eL_i, eL_l, eL_r, eL_n, Option.toList_none, Option.toList_some, List.nil_append, List.cons_append, kkI, llI, nnI, rrI, jjI, kkJ, llJ, nnJ, rrJ, iiJ, zIIs, zJJs, nEF, nET, and_false, false_and, jmin, jmax, catS_n, catS_i, catS_r, catS_l, Nat.reduceLeDiff, j1eq1, n21, jt0, jt1, Bool.false_eq_true, Classical.not_not, true_or, or_true, false_or, or_false, true_imp_iff, false_imp_iff, not_true_eq_false, not_false_eq_true, jif0, jif1, jifb, ltT, ltF, leT, leF, eqT, eqF, jlt, jle, jeq, jlt0, jle0, jeq0, jge0, jgt0, jinB, jnat, clt, cle, ceq, cgt, cge, lI_add, lI_sub, lI_mul, jadd, jsub, jmul, jneg, jtol, b010, b011, pv_2t, Int.toNat_natCast, Option.some.injEq, exists_eq_left', if_true, if_false]
          exact ih (i + 1) _ _ _ _ g2 (by omega) f2 fun q hq => hW q hq
        | succ j2 ih2 =>
          intro c g2 hc f2 hM hW o8 o9 o10
          have hg := hm.fi f2.1
          have Mg := hg.k
          have Aw := hg.wide
          have Am := hg.wideMade
          have vc := hM c (by omega)
          refine vs_ok 3 ?_
          rw [show ((gRes 222).drop 121).take 3 = [.iload 7, .iconst 1601, .if_icmp .ge 138] from rfl]
          simp (disch := omega) only [vs_iconst, vs_if_icmp, vs_iload7, vs_nil, gv_0, gv_1, gv_2, gv_3, pv_0, pv_1, va_rf_s, Nat.reduceDiv, Nat.reduceMod, Nat.reduceAdd, Nat.reduceMul, Int.reduceToNat, true_and, and_true, and_self, cP_eq, cP_ne, cP_lt, cP_ge, cP_gt, cP_le, eL_i, eL_l, eL_r, eL_n, Option.toList_none, Option.toList_some, List.nil_append, List.cons_append, kkI, llI, nnI, rrI, jjI, kkJ, llJ, nnJ, rrJ, iiJ, zIIs, zJJs, nEF, nET, and_false, false_and, jmin, jmax, catS_n, catS_i, catS_r, catS_l, Nat.reduceLeDiff, j1eq1, n21, jt0, jt1, Bool.false_eq_true, Classical.not_not, true_or, or_true, false_or, or_false, true_imp_iff, false_imp_iff, not_true_eq_false, not_false_eq_true, jif0, jif1, jifb, ltT, ltF, leT, leF, eqT, eqF, jlt, jle, jeq, jlt0, jle0, jeq0, jge0, jgt0, jinB, jnat, clt, cle, ceq, cgt, cge, lI_add, lI_sub, lI_mul, jadd, jsub, jmul, jneg, jtol, b010, b011, pv_2t, Int.toNat_natCast, Option.some.injEq, exists_eq_left', if_true, if_false]
          refine vs_ok 14 ?_
          rw [show ((gRes 222).drop 124).take 14 = [.aload 0, .getfield 12242, .iconst 1601, .iload 3, .imul, .iload 7, .iadd, .aload 0, .getfield 12252, .iload 7, .laload, .lastore, .iinc 7 1, .goto 121] from rfl]
          simp (disch := omega) only [vs_iadd, vs_imul, vs_iconst, vs_goto, vs_getfield, vs_laload, vs_lastore, vs_aload0, vs_iload3, vs_iload7, vs_iinc7n, vs_iinc7i, vs_iinc7r, vs_iinc7l, vs_nil, gv_0, gv_1, gv_2, gv_3, pv_0, pv_1, va_rf_s, Nat.reduceDiv, Nat.reduceMod, Nat.reduceAdd, Nat.reduceMul, Int.reduceToNat, true_and, and_true, and_self, cP_eq, cP_ne, cP_lt, cP_ge, cP_gt, cP_le, eL_i, eL_l, eL_r, eL_n, Option.toList_none, Option.toList_some, List.nil_append, List.cons_append, kkI, llI, nnI, rrI, jjI, kkJ, llJ, nnJ, rrJ, iiJ, zIIs, zJJs, nEF, nET, and_false, false_and, jmin, jmax, catS_n, catS_i, catS_r, catS_l, Nat.reduceLeDiff, j1eq1, n21, jt0, jt1, Bool.false_eq_true, Classical.not_not, true_or, or_true, false_or, or_false, true_imp_iff, false_imp_iff, not_true_eq_false, not_false_eq_true, jif0, jif1, jifb, ltT, ltF, leT, leF, eqT, eqF, jlt, jle, jeq, jlt0, jle0, jeq0, jge0, jgt0, jinB, jnat, clt, cle, ceq, cgt, cge, lI_add, lI_sub, lI_mul, jadd, jsub, jmul, jneg, jtol, b010, b011, pv_2t, Int.toNat_natCast, Option.some.injEq, exists_eq_left', if_true, if_false, Mg, Aw, Am, e16, vc]
          refine ih2 (c + 1) _ (by omega) (f2.J (by omega)) (fun q hq => ?_) (fun q hq => ?_) _ _ _
          · rw [zJ_sJ, if_neg (by omega)]
            exact hM q hq
          · rw [zJ_sJ]
            by_cases y : q = c
            · rw [if_pos ⟨rfl, by omega⟩, y]
            · rw [if_neg (by omega)]
              exact hW q (by omega)
      -- the row is made
      have l4 : ∀ (j2 c : Nat) (g2 : Hp), j2 + c = 1601 → wdC h g2 m to → wdW g2 m to (U i) → (∀ q, q < 1601 → zJ g2 (m + 14) q = lI (cM (U i) v.2.2.2 c ((q : Int) - 800))) → ∀ o8 o9 o10, PW d 222 62 [some (.ref m), some (.int (iI a)), some (.int (iI k)), some (.int (iI to)), some (.long (lI x)), none, some (.int (iI i)), some (.int (iI c)), o8, o9, o10] [] g2 Q := by
        intro j2
        induction j2 with
        | zero =>
          intro c g2 hc f2 w2 hM o8 o9 o10
          have e : c = 1601 := by omega
          subst e
          refine vs_ok 3 ?_
          rw [show ((gRes 222).drop 62).take 3 = [.iload 7, .iconst 1601, .if_icmp .ge 119] from rfl]
          simp (disch := omega) only [vs_iconst, vs_if_icmp, vs_iload7, vs_nil, gv_0, gv_1, gv_2, gv_3, pv_0, pv_1, va_rf_s, Nat.reduceDiv, Nat.reduceMod, Nat.reduceAdd, Nat.reduceMul, Int.reduceToNat, true_and, and_true, and_self, cP_eq, cP_ne, cP_lt, cP_ge, cP_gt, cP_le, eL_i, eL_l, eL_r, eL_n, Option.toList_none, Option.toList_some, List.nil_append, List.cons_append, kkI, llI, nnI, rrI, jjI, kkJ, llJ, nnJ, rrJ, iiJ, zIIs, zJJs, nEF, nET, and_false, false_and, jmin, jmax, catS_n, catS_i, catS_r, catS_l, Nat.reduceLeDiff, j1eq1, n21, jt0, jt1, Bool.false_eq_true, Classical.not_not, true_or, or_true, false_or, or_false, true_imp_iff, false_imp_iff, not_true_eq_false, not_false_eq_true, jif0, jif1, jifb, ltT, ltF, leT, leF, eqT, eqF, jlt, jle, jeq, jlt0, jle0, jeq0, jge0, jgt0, jinB, jnat, clt, cle, ceq, cgt, cge, lI_add, lI_sub, lI_mul, jadd, jsub, jmul, jneg, jtol, b010, b011, pv_2t, Int.toNat_natCast, Option.some.injEq, exists_eq_left', if_true, if_false]
          refine vs_ok 2 ?_
          rw [show ((gRes 222).drop 119).take 2 = [.iconst 0, .istore 7] from rfl]
          simp (disch := omega) only [vs_iconst, vs_istore7n, vs_istore7i, vs_istore7r, vs_istore7l, vs_nil, gv_0, gv_1, gv_2, gv_3, pv_0, pv_1, va_rf_s, Nat.reduceDiv, Nat.reduceMod, Nat.reduceAdd, Nat.reduceMul, Int.reduceToNat, true_and, and_true, and_self, cP_eq, cP_ne, cP_lt, cP_ge, cP_gt, cP_le, eL_i, eL_l, eL_r, eL_n, Option.toList_none, Option.toList_some, List.nil_append, List.cons_append, kkI, llI, nnI, rrI, jjI, kkJ, llJ, nnJ, rrJ, iiJ, zIIs, zJJs, nEF, nET, and_false, false_and, jmin, jmax, catS_n, catS_i, catS_r, catS_l, Nat.reduceLeDiff, j1eq1, n21, jt0, jt1, Bool.false_eq_true, Classical.not_not, true_or, or_true, false_or, or_false, true_imp_iff, false_imp_iff, not_true_eq_false, not_false_eq_true, jif0, jif1, jifb, ltT, ltF, leT, leF, eqT, eqF, jlt, jle, jeq, jlt0, jle0, jeq0, jge0, jgt0, jinB, jnat, clt, cle, ceq, cgt, cge, lI_add, lI_sub, lI_mul, jadd, jsub, jmul, jneg, jtol, b010, b011, pv_2t, Int.toNat_natCast, Option.some.injEq, exists_eq_left', if_true, if_false]
          exact l5 1601 0 g2 rfl f2 (fun q hq => by rw [hM q hq, cM_e us8 vz, ← Us i (by omega)]) (fun q hq => absurd hq (by omega)) _ _ _
        | succ j2 ih2 =>
          intro c g2 hc f2 w2 hM o8 o9 o10
          have cs : ∀ z, cM (U i) v.2.2.2 (c + 1) z = cM (U i) v.2.2.2 c z + cM1 (U i ((c : Int) - 800)) v.2.2.2 ((c : Int) - 800) z 401 := fun z => by
            show cM (U i) v.2.2.2 c z + cM1 (U i (-800 + (c : Int))) v.2.2.2 (-800 + (c : Int)) z 401 = _
            rw [show -800 + (c : Int) = (c : Int) - 800 by omega]
          have ub := un ((c : Int) - 800)
          have hg := hm.fi f2.1
          have Mg := hg.k
          have Aw := hg.wide
          have vc := w2 c (by omega)
          have out : ∀ (g3 : Hp) (o10 : Option Value), wdC h g3 m to → wdW g3 m to (U i) → (∀ q, q < 1601 → zJ g3 (m + 14) q = lI (cM (U i) v.2.2.2 c ((q : Int) - 800) + cM1 (U i ((c : Int) - 800)) v.2.2.2 ((c : Int) - 800) ((q : Int) - 800) 401)) → PW d 222 117 [some (.ref m), some (.int (iI a)), some (.int (iI k)), some (.int (iI to)), some (.long (lI x)), none, some (.int (iI i)), some (.int (iI c)), some (.long (lI (U i ((c : Int) - 800)))), none, o10] [] g3 Q := fun g3 o10 f3 w3 hM3 => by
            refine vs_ok 2 ?_
            rw [show ((gRes 222).drop 117).take 2 = [.iinc 7 1, .goto 62] from rfl]
            simp (disch := omega) only [vs_goto, vs_iinc7n, vs_iinc7i, vs_iinc7r, vs_iinc7l, vs_nil, gv_0, gv_1, gv_2, gv_3, pv_0, pv_1, va_rf_s, Nat.reduceDiv, Nat.reduceMod, Nat.reduceAdd, Nat.reduceMul, Int.reduceToNat, true_and, and_true, and_self, cP_eq, cP_ne, cP_lt, cP_ge, cP_gt, cP_le, eL_i, eL_l, eL_r, eL_n, Option.toList_none, Option.toList_some, List.nil_append, List.cons_append, kkI, llI, nnI, rrI, jjI, kkJ, llJ, nnJ, rrJ, iiJ, zIIs, zJJs, nEF, nET, and_false, false_and, jmin, jmax, catS_n, catS_i, catS_r, catS_l, Nat.reduceLeDiff, j1eq1, n21, jt0, jt1, Bool.false_eq_true, Classical.not_not, true_or, or_true, false_or, or_false, true_imp_iff, false_imp_iff, not_true_eq_false, not_false_eq_true, jif0, jif1, jifb, ltT, ltF, leT, leF, eqT, eqF, jlt, jle, jeq, jlt0, jle0, jeq0, jge0, jgt0, jinB, jnat, clt, cle, ceq, cgt, cge, lI_add, lI_sub, lI_mul, jadd, jsub, jmul, jneg, jtol, b010, b011, pv_2t, Int.toNat_natCast, Option.some.injEq, exists_eq_left', if_true, if_false]
            exact ih2 (c + 1) g3 (by omega) f3 w3 (fun q hq => by rw [cs]; exact hM3 q hq) _ _ _
          by_cases c1 : 0 < U i ((c : Int) - 800)
          · have near : -600 ≤ (c : Int) - 800 ∧ (c : Int) - 800 ≤ 600 := by
              by_cases y : -(200 * (i : Int)) ≤ (c : Int) - 800 ∧ (c : Int) - 800 ≤ 200 * (i : Int)
              · omega
              · rw [us _ y] at c1
                omega
            have l3 : ∀ (j3 e : Nat) (g3 : Hp), j3 + e = 401 → wdC h g3 m to → wdW g3 m to (U i) → (∀ q, q < 1601 → zJ g3 (m + 14) q = lI (cM (U i) v.2.2.2 c ((q : Int) - 800) + cM1 (U i ((c : Int) - 800)) v.2.2.2 ((c : Int) - 800) ((q : Int) - 800) e)) → PW d 222 76 [some (.ref m), some (.int (iI a)), some (.int (iI k)), some (.int (iI to)), some (.long (lI x)), none, some (.int (iI i)), some (.int (iI c)), some (.long (lI (U i ((c : Int) - 800)))), none, some (.int (iI e))] [] g3 Q := by
              intro j3
              induction j3 with
              | zero =>
                intro e g3 he f3 w3 hM3
                have ee : e = 401 := by omega
                subst ee
                refine vs_ok 3 ?_
                rw [show ((gRes 222).drop 76).take 3 = [.iload 10, .iconst 401, .if_icmp .ge 117] from rfl]
                simp (disch := omega) only [vs_iconst, vs_if_icmp, vs_iload10, vs_nil, gv_0, gv_1, gv_2, gv_3, pv_0, pv_1, va_rf_s, Nat.reduceDiv, Nat.reduceMod, Nat.reduceAdd, Nat.reduceMul, Int.reduceToNat, true_and, and_true, and_self, cP_eq, cP_ne, cP_lt, cP_ge, cP_gt, cP_le, eL_i, eL_l, eL_r, eL_n, Option.toList_none, Option.toList_some, List.nil_append, List.cons_append, kkI, llI, nnI, rrI, jjI, kkJ, llJ, nnJ, rrJ, iiJ, zIIs, zJJs, nEF, nET, and_false, false_and, jmin, jmax, catS_n, catS_i, catS_r, catS_l, Nat.reduceLeDiff, j1eq1, n21, jt0, jt1, Bool.false_eq_true, Classical.not_not, true_or, or_true, false_or, or_false, true_imp_iff, false_imp_iff, not_true_eq_false, not_false_eq_true, jif0, jif1, jifb, ltT, ltF, leT, leF, eqT, eqF, jlt, jle, jeq, jlt0, jle0, jeq0, jge0, jgt0, jinB, jnat, clt, cle, ceq, cgt, cge, lI_add, lI_sub, lI_mul, jadd, jsub, jmul, jneg, jtol, b010, b011, pv_2t, Int.toNat_natCast, Option.some.injEq, exists_eq_left', if_true, if_false]
                exact out g3 _ f3 w3 hM3
              | succ j3 ih3 =>
                intro e g3 he f3 w3 hM3
                have hg3 := hm.fi f3.1
                have M3 := hg3.k
                have P3 := hg3.pool
                have Am := hg3.wideMade
                have xv := (wa.fi f3.1 (by omega) (by omega)).1 e (by omega)
                have nb := vn ((e : Int) - 200)
                have lb := vl ((e : Int) - 200)
                have rs : ∀ z, cM1 (U i ((c : Int) - 800)) v.2.2.2 ((c : Int) - 800) z (e + 1) = cM1 (U i ((c : Int) - 800)) v.2.2.2 ((c : Int) - 800) z e + (if (c : Int) - 800 + ((e : Int) - 200) = z then U i ((c : Int) - 800) * v.2.2.2 ((e : Int) - 200) else 0) := fun z => by
                  show cM1 (U i ((c : Int) - 800)) v.2.2.2 ((c : Int) - 800) z e + (if (c : Int) - 800 + (-200 + (e : Int)) = z then U i ((c : Int) - 800) * v.2.2.2 (-200 + (e : Int)) else 0) = _
                  rw [show -200 + (e : Int) = (e : Int) - 200 by omega]
                have nx : ∀ g4 : Hp, wdC h g4 m to → wdW g4 m to (U i) → (∀ q, q < 1601 → zJ g4 (m + 14) q = lI (cM (U i) v.2.2.2 c ((q : Int) - 800) + (cM1 (U i ((c : Int) - 800)) v.2.2.2 ((c : Int) - 800) ((q : Int) - 800) e + (if (c : Int) - 800 + ((e : Int) - 200) = (q : Int) - 800 then U i ((c : Int) - 800) * v.2.2.2 ((e : Int) - 200) else 0)))) → PW d 222 115 [some (.ref m), some (.int (iI a)), some (.int (iI k)), some (.int (iI to)), some (.long (lI x)), none, some (.int (iI i)), some (.int (iI c)), some (.long (lI (U i ((c : Int) - 800)))), none, some (.int (iI e))] [] g4 Q := fun g4 f4 w4 hM4 => by
                  refine vs_ok 2 ?_
                  rw [show ((gRes 222).drop 115).take 2 = [.iinc 10 1, .goto 76] from rfl]
                  simp (disch := omega) only [vs_goto, vs_iinc10n, vs_iinc10i, vs_iinc10r, vs_iinc10l, vs_nil, gv_0, gv_1, gv_2, gv_3, pv_0, pv_1, va_rf_s, Nat.reduceDiv, Nat.reduceMod, Nat.reduceAdd, Nat.reduceMul, Int.reduceToNat, true_and, and_true, and_self, cP_eq, cP_ne, cP_lt, cP_ge, cP_gt, cP_le, eL_i, eL_l, eL_r, eL_n, Option.toList_none, Option.toList_some, List.nil_append, List.cons_append, kkI, llI, nnI, rrI, jjI, kkJ, llJ, nnJ, rrJ, iiJ, zIIs, zJJs, nEF, nET, and_false, false_and, jmin, jmax, catS_n, catS_i, catS_r, catS_l, Nat.reduceLeDiff, j1eq1, n21, jt0, jt1, Bool.false_eq_true, Classical.not_not, true_or, or_true, false_or, or_false, true_imp_iff, false_imp_iff, not_true_eq_false, not_false_eq_true, jif0, jif1, jifb, ltT, ltF, leT, leF, eqT, eqF, jlt, jle, jeq, jlt0, jle0, jeq0, jge0, jgt0, jinB, jnat, clt, cle, ceq, cgt, cge, lI_add, lI_sub, lI_mul, jadd, jsub, jmul, jneg, jtol, b010, b011, pv_2t, Int.toNat_natCast, Option.some.injEq, exists_eq_left', if_true, if_false]
                  exact ih3 (e + 1) g4 (by omega) f4 w4 fun q hq => by rw [rs]; exact hM4 q hq
                by_cases c2 : 0 < v.2.2.2 ((e : Int) - 200)
                · obtain ⟨u, hu⟩ : ∃ u : Nat, (c : Int) + (e : Int) - 200 = u := ⟨((c : Int) + (e : Int) - 200).toNat, by omega⟩
                  have xu := hM3 u (by omega)
                  refine vs_ok 7 ?_
                  rw [show ((gRes 222).drop 76).take 7 = [.iload 10, .iconst 401, .if_icmp .ge 117, .lload 8, .jsr_w 0, .lcmp, .ifCond .le 117] from rfl]
                  simp (disch := omega) only [vs_lcmp, vs_iconst, vs_jsr_w, vs_if_icmp, vs_ifCond, vs_lload8, vs_iload10, vs_nil, gv_0, gv_1, gv_2, gv_3, pv_0, pv_1, va_rf_s, Nat.reduceDiv, Nat.reduceMod, Nat.reduceAdd, Nat.reduceMul, Int.reduceToNat, true_and, and_true, and_self, cP_eq, cP_ne, cP_lt, cP_ge, cP_gt, cP_le, eL_i, eL_l, eL_r, eL_n, Option.toList_none, Option.toList_some, List.nil_append, List.cons_append, kkI, llI, nnI, rrI, jjI, kkJ, llJ, nnJ, rrJ, iiJ, zIIs, zJJs, nEF, nET, and_false, false_and, jmin, jmax, catS_n, catS_i, catS_r, catS_l, Nat.reduceLeDiff, j1eq1, n21, jt0, jt1, Bool.false_eq_true, Classical.not_not, true_or, or_true, false_or, or_false, true_imp_iff, false_imp_iff, not_true_eq_false, not_false_eq_true, jif0, jif1, jifb, ltT, ltF, leT, leF, eqT, eqF, jlt, jle, jeq, jlt0, jle0, jeq0, jge0, jgt0, jinB, jnat, clt, cle, ceq, cgt, cge, lI_add, lI_sub, lI_mul, jadd, jsub, jmul, jneg, jtol, b010, b011, pv_2t, Int.toNat_natCast, Option.some.injEq, exists_eq_left', if_true, if_false]
                  refine vs_ok 11 ?_
                  rw [show ((gRes 222).drop 83).take 11 = [.aload 0, .getfield 12052, .iconst 401, .iload 1, .imul, .iload 10, .iadd, .laload, .jsr_w 0, .lcmp, .ifCond .le 115] from rfl]
                  simp (disch := omega) only [vs_iadd, vs_imul, vs_lcmp, vs_iconst, vs_jsr_w, vs_ifCond, vs_getfield, vs_laload, vs_aload0, vs_iload1, vs_iload10, vs_nil, gv_0, gv_1, gv_2, gv_3, pv_0, pv_1, va_rf_s, Nat.reduceDiv, Nat.reduceMod, Nat.reduceAdd, Nat.reduceMul, Int.reduceToNat, true_and, and_true, and_self, cP_eq, cP_ne, cP_lt, cP_ge, cP_gt, cP_le, eL_i, eL_l, eL_r, eL_n, Option.toList_none, Option.toList_some, List.nil_append, List.cons_append, kkI, llI, nnI, rrI, jjI, kkJ, llJ, nnJ, rrJ, iiJ, zIIs, zJJs, nEF, nET, and_false, false_and, jmin, jmax, catS_n, catS_i, catS_r, catS_l, Nat.reduceLeDiff, j1eq1, n21, jt0, jt1, Bool.false_eq_true, Classical.not_not, true_or, or_true, false_or, or_false, true_imp_iff, false_imp_iff, not_true_eq_false, not_false_eq_true, jif0, jif1, jifb, ltT, ltF, leT, leF, eqT, eqF, jlt, jle, jeq, jlt0, jle0, jeq0, jge0, jgt0, jinB, jnat, clt, cle, ceq, cgt, cge, lI_add, lI_sub, lI_mul, jadd, jsub, jmul, jneg, jtol, b010, b011, pv_2t, Int.toNat_natCast, Option.some.injEq, exists_eq_left', if_true, if_false, M3, P3, e4, xv]
                  refine vs_ok 21 ?_
                  rw [show ((gRes 222).drop 94).take 21 = [.aload 0, .getfield 12252, .iload 7, .iload 10, .iadd, .iconst 200, .isub, .dup2, .laload, .lload 8, .aload 0, .getfield 12052, .iconst 401, .iload 1, .imul, .iload 10, .iadd, .laload, .lmul, .ladd, .lastore] from rfl]
                  simp (disch := omega) only [vs_iadd, vs_isub, vs_imul, vs_ladd, vs_lmul, vs_iconst, vs_getfield, vs_laload, vs_lastore, vs_dup2, vs_aload0, vs_iload1, vs_iload7, vs_lload8, vs_iload10, vs_nil, gv_0, gv_1, gv_2, gv_3, pv_0, pv_1, va_rf_s, Nat.reduceDiv, Nat.reduceMod, Nat.reduceAdd, Nat.reduceMul, Int.reduceToNat, true_and, and_true, and_self, cP_eq, cP_ne, cP_lt, cP_ge, cP_gt, cP_le, eL_i, eL_l, eL_r, eL_n, Option.toList_none, Option.toList_some, List.nil_append, List.cons_append, kkI, llI, nnI, rrI, jjI, kkJ, llJ, nnJ, rrJ, iiJ, zIIs, zJJs, nEF, nET, and_false, false_and, jmin, jmax, catS_n, catS_i, catS_r, catS_l, Nat.reduceLeDiff, j1eq1, n21, jt0, jt1, Bool.false_eq_true, Classical.not_not, true_or, or_true, false_or, or_false, true_imp_iff, false_imp_iff, not_true_eq_false, not_false_eq_true, jif0, jif1, jifb, ltT, ltF, leT, leF, eqT, eqF, jlt, jle, jeq, jlt0, jle0, jeq0, jge0, jgt0, jinB, jnat, clt, cle, ceq, cgt, cge, lI_add, lI_sub, lI_mul, jadd, jsub, jmul, jneg, jtol, b010, b011, pv_2t, Int.toNat_natCast, Option.some.injEq, exists_eq_left', if_true, if_false, M3, P3, Am, e4, xv, hu, xu]
                  refine nx _ f3.M (fun q hq => by rw [zJ_sJ, if_neg (by omega)]; exact w3 q hq) fun q hq => ?_
                  rw [zJ_sJ]
                  by_cases y : q = u
                  · rw [if_pos ⟨rfl, y⟩, y, if_pos (by omega), Int.add_assoc]
                  · rw [if_neg fun z => y z.2, if_neg (by omega), Int.add_zero]
                    exact hM3 q hq
                · have v0 : v.2.2.2 ((e : Int) - 200) = 0 := by omega
                  refine vs_ok 7 ?_
                  rw [show ((gRes 222).drop 76).take 7 = [.iload 10, .iconst 401, .if_icmp .ge 117, .lload 8, .jsr_w 0, .lcmp, .ifCond .le 117] from rfl]
                  simp (disch := omega) only [vs_lcmp, vs_iconst, vs_jsr_w, vs_if_icmp, vs_ifCond, vs_lload8, vs_iload10, vs_nil, gv_0, gv_1, gv_2, gv_3, pv_0, pv_1, va_rf_s, Nat.reduceDiv, Nat.reduceMod, Nat.reduceAdd, Nat.reduceMul, Int.reduceToNat, true_and, and_true, and_self, cP_eq, cP_ne, cP_lt, cP_ge, cP_gt, cP_le, eL_i, eL_l, eL_r, eL_n, Option.toList_none, Option.toList_some, List.nil_append, List.cons_append, kkI, llI, nnI, rrI, jjI, kkJ, llJ, nnJ, rrJ, iiJ, zIIs, zJJs, nEF, nET, and_false, false_and, jmin, jmax, catS_n, catS_i, catS_r, catS_l, Nat.reduceLeDiff, j1eq1, n21, jt0, jt1, Bool.false_eq_true, Classical.not_not, true_or, or_true, false_or, or_false, true_imp_iff, false_imp_iff, not_true_eq_false, not_false_eq_true, jif0, jif1, jifb, ltT, ltF, leT, leF, eqT, eqF, jlt, jle, jeq, jlt0, jle0, jeq0, jge0, jgt0, jinB, jnat, clt, cle, ceq, cgt, cge, lI_add, lI_sub, lI_mul, jadd, jsub, jmul, jneg, jtol, b010, b011, pv_2t, Int.toNat_natCast, Option.some.injEq, exists_eq_left', if_true, if_false]
                  refine vs_ok 11 ?_
                  rw [show ((gRes 222).drop 83).take 11 = [.aload 0, .getfield 12052, .iconst 401, .iload 1, .imul, .iload 10, .iadd, .laload, .jsr_w 0, .lcmp, .ifCond .le 115] from rfl]
                  simp (disch := omega) only [vs_iadd, vs_imul, vs_lcmp, vs_iconst, vs_jsr_w, vs_ifCond, vs_getfield, vs_laload, vs_aload0, vs_iload1, vs_iload10, vs_nil, gv_0, gv_1, gv_2, gv_3, pv_0, pv_1, va_rf_s, Nat.reduceDiv, Nat.reduceMod, Nat.reduceAdd, Nat.reduceMul, Int.reduceToNat, true_and, and_true, and_self, cP_eq, cP_ne, cP_lt, cP_ge, cP_gt, cP_le, eL_i, eL_l, eL_r, eL_n, Option.toList_none, Option.toList_some, List.nil_append, List.cons_append, kkI, llI, nnI, rrI, jjI, kkJ, llJ, nnJ, rrJ, iiJ, zIIs, zJJs, nEF, nET, and_false, false_and, jmin, jmax, catS_n, catS_i, catS_r, catS_l, Nat.reduceLeDiff, j1eq1, n21, jt0, jt1, Bool.false_eq_true, Classical.not_not, true_or, or_true, false_or, or_false, true_imp_iff, false_imp_iff, not_true_eq_false, not_false_eq_true, jif0, jif1, jifb, ltT, ltF, leT, leF, eqT, eqF, jlt, jle, jeq, jlt0, jle0, jeq0, jge0, jgt0, jinB, jnat, clt, cle, ceq, cgt, cge, lI_add, lI_sub, lI_mul, jadd, jsub, jmul, jneg, jtol, b010, b011, pv_2t, Int.toNat_natCast, Option.some.injEq, exists_eq_left', if_true, if_false, M3, P3, e4, xv]
                  refine nx g3 f3 w3 fun q hq => ?_
                  rw [v0, Int.mul_zero, ite_self, Int.add_zero]
                  exact hM3 q hq
            refine vs_ok 3 ?_
            rw [show ((gRes 222).drop 62).take 3 = [.iload 7, .iconst 1601, .if_icmp .ge 119] from rfl]
            simp (disch := omega) only [vs_iconst, vs_if_icmp, vs_iload7, vs_nil, gv_0, gv_1, gv_2, gv_3, pv_0, pv_1, va_rf_s, Nat.reduceDiv, Nat.reduceMod, Nat.reduceAdd, Nat.reduceMul, Int.reduceToNat, true_and, and_true, and_self, cP_eq, cP_ne, cP_lt, cP_ge, cP_gt, cP_le, eL_i, eL_l, eL_r, eL_n, Option.toList_none, Option.toList_some, List.nil_append, List.cons_append, kkI, llI, nnI, rrI, jjI, kkJ, llJ, nnJ, rrJ, iiJ, zIIs, zJJs, nEF, nET, and_false, false_and, jmin, jmax, catS_n, catS_i, catS_r, catS_l, Nat.reduceLeDiff, j1eq1, n21, jt0, jt1, Bool.false_eq_true, Classical.not_not, true_or, or_true, false_or, or_false, true_imp_iff, false_imp_iff, not_true_eq_false, not_false_eq_true, jif0, jif1, jifb, ltT, ltF, leT, leF, eqT, eqF, jlt, jle, jeq, jlt0, jle0, jeq0, jge0, jgt0, jinB, jnat, clt, cle, ceq, cgt, cge, lI_add, lI_sub, lI_mul, jadd, jsub, jmul, jneg, jtol, b010, b011, pv_2t, Int.toNat_natCast, Option.some.injEq, exists_eq_left', if_true, if_false]
            refine vs_ok 11 ?_
            rw [show ((gRes 222).drop 65).take 11 = [.aload 0, .getfield 12242, .iconst 1601, .iload 3, .imul, .iload 7, .iadd, .laload, .lstore 8, .iconst 0, .istore 10] from rfl]
            simp (disch := omega) only [vs_iadd, vs_imul, vs_iconst, vs_getfield, vs_laload, vs_aload0, vs_iload3, vs_iload7, vs_lstore8n, vs_lstore8i, vs_lstore8r, vs_lstore8l, vs_istore10n, vs_istore10i, vs_istore10r, vs_istore10l, vs_nil, gv_0, gv_1, gv_2, gv_3, pv_0, pv_1, va_rf_s, Nat.reduceDiv, Nat.reduceMod, Nat.reduceAdd, Nat.reduceMul, Int.reduceToNat, true_and, and_true, and_self, cP_eq, cP_ne, cP_lt, cP_ge, cP_gt, cP_le, eL_i, eL_l, eL_r, eL_n, Option.toList_none, Option.toList_some, List.nil_append, List.cons_append, kkI, llI, nnI, rrI, jjI, kkJ, llJ, nnJ, rrJ, iiJ, zIIs, zJJs, nEF, nET, and_false, false_and, jmin, jmax, catS_n, catS_i, catS_r, catS_l, Nat.reduceLeDiff, j1eq1, n21, jt0, jt1, Bool.false_eq_true, Classical.not_not, true_or, or_true, false_or, or_false, true_imp_iff, false_imp_iff, not_true_eq_false, not_false_eq_true, jif0, jif1, jifb, ltT, ltF, leT, leF, eqT, eqF, jlt, jle, jeq, jlt0, jle0, jeq0, jge0, jgt0, jinB, jnat, clt, cle, ceq, cgt, cge, lI_add, lI_sub, lI_mul, jadd, jsub, jmul, jneg, jtol, b010, b011, pv_2t, Int.toNat_natCast, Option.some.injEq, exists_eq_left', if_true, if_false, Mg, Aw, e16, vc]
            exact l3 401 0 g2 rfl f2 w2 fun q hq => by
              rw [show cM1 (U i ((c : Int) - 800)) v.2.2.2 ((c : Int) - 800) ((q : Int) - 800) 0 = 0 from rfl, Int.add_zero]
              exact hM q hq
          · have u0 : U i ((c : Int) - 800) = 0 := by omega
            refine vs_ok 3 ?_
            rw [show ((gRes 222).drop 62).take 3 = [.iload 7, .iconst 1601, .if_icmp .ge 119] from rfl]
            simp (disch := omega) only [vs_iconst, vs_if_icmp, vs_iload7, vs_nil, gv_0, gv_1, gv_2, gv_3, pv_0, pv_1, va_rf_s, Nat.reduceDiv, Nat.reduceMod, Nat.reduceAdd, Nat.reduceMul, Int.reduceToNat, true_and, and_true, and_self, cP_eq, cP_ne, cP_lt, cP_ge, cP_gt, cP_le, eL_i, eL_l, eL_r, eL_n, Option.toList_none, Option.toList_some, List.nil_append, List.cons_append, kkI, llI, nnI, rrI, jjI, kkJ, llJ, nnJ, rrJ, iiJ, zIIs, zJJs, nEF, nET, and_false, false_and, jmin, jmax, catS_n, catS_i, catS_r, catS_l, Nat.reduceLeDiff, j1eq1, n21, jt0, jt1, Bool.false_eq_true, Classical.not_not, true_or, or_true, false_or, or_false, true_imp_iff, false_imp_iff, not_true_eq_false, not_false_eq_true, jif0, jif1, jifb, ltT, ltF, leT, leF, eqT, eqF, jlt, jle, jeq, jlt0, jle0, jeq0, jge0, jgt0, jinB, jnat, clt, cle, ceq, cgt, cge, lI_add, lI_sub, lI_mul, jadd, jsub, jmul, jneg, jtol, b010, b011, pv_2t, Int.toNat_natCast, Option.some.injEq, exists_eq_left', if_true, if_false]
            refine vs_ok 11 ?_
            rw [show ((gRes 222).drop 65).take 11 = [.aload 0, .getfield 12242, .iconst 1601, .iload 3, .imul, .iload 7, .iadd, .laload, .lstore 8, .iconst 0, .istore 10] from rfl]
            simp (disch := omega) only [vs_iadd, vs_imul, vs_iconst, vs_getfield, vs_laload, vs_aload0, vs_iload3, vs_iload7, vs_lstore8n, vs_lstore8i, vs_lstore8r, vs_lstore8l, vs_istore10n, vs_istore10i, vs_istore10r, vs_istore10l, vs_nil, gv_0, gv_1, gv_2, gv_3, pv_0, pv_1, va_rf_s, Nat.reduceDiv, Nat.reduceMod, Nat.reduceAdd, Nat.reduceMul, Int.reduceToNat, true_and, and_true, and_self, cP_eq, cP_ne, cP_lt, cP_ge, cP_gt, cP_le, eL_i, eL_l, eL_r, eL_n, Option.toList_none, Option.toList_some, List.nil_append, List.cons_append, kkI, llI, nnI, rrI, jjI, kkJ, llJ, nnJ, rrJ, iiJ, zIIs, zJJs, nEF, nET, and_false, false_and, jmin, jmax, catS_n, catS_i, catS_r, catS_l, Nat.reduceLeDiff, j1eq1, n21, jt0, jt1, Bool.false_eq_true, Classical.not_not, true_or, or_true, false_or, or_false, true_imp_iff, false_imp_iff, not_true_eq_false, not_false_eq_true, jif0, jif1, jifb, ltT, ltF, leT, leF, eqT, eqF, jlt, jle, jeq, jlt0, jle0, jeq0, jge0, jgt0, jinB, jnat, clt, cle, ceq, cgt, cge, lI_add, lI_sub, lI_mul, jadd, jsub, jmul, jneg, jtol, b010, b011, pv_2t, Int.toNat_natCast, Option.some.injEq, exists_eq_left', if_true, if_false, Mg, Aw, e16, vc]
            refine vs_ok 3 ?_
            rw [show ((gRes 222).drop 76).take 3 = [.iload 10, .iconst 401, .if_icmp .ge 117] from rfl]
            simp (disch := omega) only [vs_iconst, vs_if_icmp, vs_iload10, vs_nil, gv_0, gv_1, gv_2, gv_3, pv_0, pv_1, va_rf_s, Nat.reduceDiv, Nat.reduceMod, Nat.reduceAdd, Nat.reduceMul, Int.reduceToNat, true_and, and_true, and_self, cP_eq, cP_ne, cP_lt, cP_ge, cP_gt, cP_le, eL_i, eL_l, eL_r, eL_n, Option.toList_none, Option.toList_some, List.nil_append, List.cons_append, kkI, llI, nnI, rrI, jjI, kkJ, llJ, nnJ, rrJ, iiJ, zIIs, zJJs, nEF, nET, and_false, false_and, jmin, jmax, catS_n, catS_i, catS_r, catS_l, Nat.reduceLeDiff, j1eq1, n21, jt0, jt1, Bool.false_eq_true, Classical.not_not, true_or, or_true, false_or, or_false, true_imp_iff, false_imp_iff, not_true_eq_false, not_false_eq_true, jif0, jif1, jifb, ltT, ltF, leT, leF, eqT, eqF, jlt, jle, jeq, jlt0, jle0, jeq0, jge0, jgt0, jinB, jnat, clt, cle, ceq, cgt, cge, lI_add, lI_sub, lI_mul, jadd, jsub, jmul, jneg, jtol, b010, b011, pv_2t, Int.toNat_natCast, Option.some.injEq, exists_eq_left', if_true, if_false]
            refine vs_ok 4 ?_
            rw [show ((gRes 222).drop 79).take 4 = [.lload 8, .jsr_w 0, .lcmp, .ifCond .le 117] from rfl]
            simp (disch := omega) only [vs_lcmp, vs_jsr_w, vs_ifCond, vs_lload8, vs_nil, gv_0, gv_1, gv_2, gv_3, pv_0, pv_1, va_rf_s, Nat.reduceDiv, Nat.reduceMod, Nat.reduceAdd, Nat.reduceMul, Int.reduceToNat, true_and, and_true, and_self, cP_eq, cP_ne, cP_lt, cP_ge, cP_gt, cP_le, eL_i, eL_l, eL_r, eL_n, Option.toList_none, Option.toList_some, List.nil_append, List.cons_append, kkI, llI, nnI, rrI, jjI, kkJ, llJ, nnJ, rrJ, iiJ, zIIs, zJJs, nEF, nET, and_false, false_and, jmin, jmax, catS_n, catS_i, catS_r, catS_l, Nat.reduceLeDiff, j1eq1, n21, jt0, jt1, Bool.false_eq_true, Classical.not_not, true_or, or_true, false_or, or_false, true_imp_iff, false_imp_iff, not_true_eq_false, not_false_eq_true, jif0, jif1, jifb, ltT, ltF, leT, leF, eqT, eqF, jlt, jle, jeq, jlt0, jle0, jeq0, jge0, jgt0, jinB, jnat, clt, cle, ceq, cgt, cge, lI_add, lI_sub, lI_mul, jadd, jsub, jmul, jneg, jtol, b010, b011, pv_2t, Int.toNat_natCast, Option.some.injEq, exists_eq_left', if_true, if_false]
            refine out g2 _ f2 w2 fun q hq => ?_
            rw [show cM1 (U i ((c : Int) - 800)) v.2.2.2 ((c : Int) - 800) ((q : Int) - 800) 401 = 0 from sm_zero _ fun p hp => by rw [u0, Int.zero_mul, ite_self], Int.add_zero]
            exact hM q hq
      -- zeros
      have l3 : ∀ (j2 c : Nat) (g2 : Hp), j2 + c = 1601 → wdC h g2 m to → wdW g2 m to (U i) → (∀ q, q < c → zJ g2 (m + 14) q = lI 0) → ∀ o8 o9 o10, PW d 222 50 [some (.ref m), some (.int (iI a)), some (.int (iI k)), some (.int (iI to)), some (.long (lI x)), none, some (.int (iI i)), some (.int (iI c)), o8, o9, o10] [] g2 Q := by
        intro j2
        induction j2 with
        | zero =>
          intro c g2 hc f2 w2 hM o8 o9 o10
          have e : c = 1601 := by omega
          subst e
          refine vs_ok 3 ?_
          rw [show ((gRes 222).drop 50).take 3 = [.iload 7, .iconst 1601, .if_icmp .ge 60] from rfl]
          simp (disch := omega) only [vs_iconst, vs_if_icmp, vs_iload7, vs_nil, gv_0, gv_1, gv_2, gv_3, pv_0, pv_1, va_rf_s, Nat.reduceDiv, Nat.reduceMod, Nat.reduceAdd, Nat.reduceMul, Int.reduceToNat, true_and, and_true, and_self, cP_eq, cP_ne, cP_lt, cP_ge, cP_gt, cP_le, eL_i, eL_l, eL_r, eL_n, Option.toList_none, Option.toList_some, List.nil_append, List.cons_append, kkI, llI, nnI, rrI, jjI, kkJ, llJ, nnJ, rrJ, iiJ, zIIs, zJJs, nEF, nET, and_false, false_and, jmin, jmax, catS_n, catS_i, catS_r, catS_l, Nat.reduceLeDiff, j1eq1, n21, jt0, jt1, Bool.false_eq_true, Classical.not_not, true_or, or_true, false_or, or_false, true_imp_iff, false_imp_iff, not_true_eq_false, not_false_eq_true, jif0, jif1, jifb, ltT, ltF, leT, leF, eqT, eqF, jlt, jle, jeq, jlt0, jle0, jeq0, jge0, jgt0, jinB, jnat, clt, cle, ceq, cgt, cge, lI_add, lI_sub, lI_mul, jadd, jsub, jmul, jneg, jtol, b010, b011, pv_2t, Int.toNat_natCast, Option.some.injEq, exists_eq_left', if_true, if_false]
          refine vs_ok 2 ?_
          rw [show ((gRes 222).drop 60).take 2 = [.iconst 0, .istore 7] from rfl]
          simp (disch := omega) only [vs_iconst, vs_istore7n, vs_istore7i, vs_istore7r, vs_istore7l, vs_nil, gv_0, gv_1, gv_2, gv_3, pv_0, pv_1, va_rf_s, Nat.reduceDiv, Nat.reduceMod, Nat.reduceAdd, Nat.reduceMul, Int.reduceToNat, true_and, and_true, and_self, cP_eq, cP_ne, cP_lt, cP_ge, cP_gt, cP_le, eL_i, eL_l, eL_r, eL_n, Option.toList_none, Option.toList_some, List.nil_append, List.cons_append, kkI, llI, nnI, rrI, jjI, kkJ, llJ, nnJ, rrJ, iiJ, zIIs, zJJs, nEF, nET, and_false, false_and, jmin, jmax, catS_n, catS_i, catS_r, catS_l, Nat.reduceLeDiff, j1eq1, n21, jt0, jt1, Bool.false_eq_true, Classical.not_not, true_or, or_true, false_or, or_false, true_imp_iff, false_imp_iff, not_true_eq_false, not_false_eq_true, jif0, jif1, jifb, ltT, ltF, leT, leF, eqT, eqF, jlt, jle, jeq, jlt0, jle0, jeq0, jge0, jgt0, jinB, jnat, clt, cle, ceq, cgt, cge, lI_add, lI_sub, lI_mul, jadd, jsub, jmul, jneg, jtol, b010, b011, pv_2t, Int.toNat_natCast, Option.some.injEq, exists_eq_left', if_true, if_false]
          exact l4 1601 0 g2 rfl f2 w2 hM _ _ _
        | succ j2 ih2 =>
          intro c g2 hc f2 w2 hM o8 o9 o10
          have hg := hm.fi f2.1
          have Mg := hg.k
          have Am := hg.wideMade
          refine vs_ok 3 ?_
          rw [show ((gRes 222).drop 50).take 3 = [.iload 7, .iconst 1601, .if_icmp .ge 60] from rfl]
          simp (disch := omega) only [vs_iconst, vs_if_icmp, vs_iload7, vs_nil, gv_0, gv_1, gv_2, gv_3, pv_0, pv_1, va_rf_s, Nat.reduceDiv, Nat.reduceMod, Nat.reduceAdd, Nat.reduceMul, Int.reduceToNat, true_and, and_true, and_self, cP_eq, cP_ne, cP_lt, cP_ge, cP_gt, cP_le, eL_i, eL_l, eL_r, eL_n, Option.toList_none, Option.toList_some, List.nil_append, List.cons_append, kkI, llI, nnI, rrI, jjI, kkJ, llJ, nnJ, rrJ, iiJ, zIIs, zJJs, nEF, nET, and_false, false_and, jmin, jmax, catS_n, catS_i, catS_r, catS_l, Nat.reduceLeDiff, j1eq1, n21, jt0, jt1, Bool.false_eq_true, Classical.not_not, true_or, or_true, false_or, or_false, true_imp_iff, false_imp_iff, not_true_eq_false, not_false_eq_true, jif0, jif1, jifb, ltT, ltF, leT, leF, eqT, eqF, jlt, jle, jeq, jlt0, jle0, jeq0, jge0, jgt0, jinB, jnat, clt, cle, ceq, cgt, cge, lI_add, lI_sub, lI_mul, jadd, jsub, jmul, jneg, jtol, b010, b011, pv_2t, Int.toNat_natCast, Option.some.injEq, exists_eq_left', if_true, if_false]
          refine vs_ok 7 ?_
          rw [show ((gRes 222).drop 53).take 7 = [.aload 0, .getfield 12252, .iload 7, .jsr_w 0, .lastore, .iinc 7 1, .goto 50] from rfl]
          simp (disch := omega) only [vs_jsr_w, vs_goto, vs_getfield, vs_lastore, vs_aload0, vs_iload7, vs_iinc7n, vs_iinc7i, vs_iinc7r, vs_iinc7l, vs_nil, gv_0, gv_1, gv_2, gv_3, pv_0, pv_1, va_rf_s, Nat.reduceDiv, Nat.reduceMod, Nat.reduceAdd, Nat.reduceMul, Int.reduceToNat, true_and, and_true, and_self, cP_eq, cP_ne, cP_lt, cP_ge, cP_gt, cP_le, eL_i, eL_l, eL_r, eL_n, Option.toList_none, Option.toList_some, List.nil_append, List.cons_append, kkI, llI, nnI, rrI, jjI, kkJ, llJ, nnJ, rrJ, iiJ, zIIs, zJJs, nEF, nET, and_false, false_and, jmin, jmax, catS_n, catS_i, catS_r, catS_l, Nat.reduceLeDiff, j1eq1, n21, jt0, jt1, Bool.false_eq_true, Classical.not_not, true_or, or_true, false_or, or_false, true_imp_iff, false_imp_iff, not_true_eq_false, not_false_eq_true, jif0, jif1, jifb, ltT, ltF, leT, leF, eqT, eqF, jlt, jle, jeq, jlt0, jle0, jeq0, jge0, jgt0, jinB, jnat, clt, cle, ceq, cgt, cge, lI_add, lI_sub, lI_mul, jadd, jsub, jmul, jneg, jtol, b010, b011, pv_2t, Int.toNat_natCast, Option.some.injEq, exists_eq_left', if_true, if_false, Mg, Am]
          refine ih2 (c + 1) _ (by omega) f2.M (fun q hq => by rw [zJ_sJ, if_neg (by omega)]; exact w2 q hq) (fun q hq => ?_) _ _ _
          rw [zJ_sJ]
          by_cases y : q = c
          · rw [if_pos ⟨rfl, y⟩]
          · rw [if_neg fun z => y z.2]
            exact hM q (by omega)
      refine vs_ok 3 ?_
      rw [show ((gRes 222).drop 45).take 3 = [.iload 6, .iload 2, .if_icmp .ge 140] from rfl]
      simp (disch := omega) only [vs_if_icmp, vs_iload2, vs_iload6, vs_nil, gv_0, gv_1, gv_2, gv_3, pv_0, pv_1, va_rf_s, Nat.reduceDiv, Nat.reduceMod, Nat.reduceAdd, Nat.reduceMul, Int.reduceToNat, true_and, and_true, and_self, cP_eq, cP_ne, cP_lt, cP_ge, cP_gt, cP_le, eL_i, eL_l, eL_r, eL_n, Option.toList_none, Option.toList_some, List.nil_append, List.cons_append, kkI, llI, nnI, rrI, jjI, kkJ, llJ, nnJ, rrJ, iiJ, zIIs, zJJs, nEF, nET, and_false, false_and, jmin, jmax, catS_n, catS_i, catS_r, catS_l, Nat.reduceLeDiff, j1eq1, n21, jt0, jt1, Bool.false_eq_true, Classical.not_not, true_or, or_true, false_or, or_false, true_imp_iff, false_imp_iff, not_true_eq_false, not_false_eq_true, jif0, jif1, jifb, ltT, ltF, leT, leF, eqT, eqF, jlt, jle, jeq, jlt0, jle0, jeq0, jge0, jgt0, jinB, jnat, clt, cle, ceq, cgt, cge, lI_add, lI_sub, lI_mul, jadd, jsub, jmul, jneg, jtol, b010, b011, pv_2t, Int.toNat_natCast, Option.some.injEq, exists_eq_left', if_true, if_false]
      refine vs_ok 2 ?_
      rw [show ((gRes 222).drop 48).take 2 = [.iconst 0, .istore 7] from rfl]
      simp (disch := omega) only [vs_iconst, vs_istore7n, vs_istore7i, vs_istore7r, vs_istore7l, vs_nil, gv_0, gv_1, gv_2, gv_3, pv_0, pv_1, va_rf_s, Nat.reduceDiv, Nat.reduceMod, Nat.reduceAdd, Nat.reduceMul, Int.reduceToNat, true_and, and_true, and_self, cP_eq, cP_ne, cP_lt, cP_ge, cP_gt, cP_le, eL_i, eL_l, eL_r, eL_n, Option.toList_none, Option.toList_some, List.nil_append, List.cons_append, kkI, llI, nnI, rrI, jjI, kkJ, llJ, nnJ, rrJ, iiJ, zIIs, zJJs, nEF, nET, and_false, false_and, jmin, jmax, catS_n, catS_i, catS_r, catS_l, Nat.reduceLeDiff, j1eq1, n21, jt0, jt1, Bool.false_eq_true, Classical.not_not, true_or, or_true, false_or, or_false, true_imp_iff, false_imp_iff, not_true_eq_false, not_false_eq_true, jif0, jif1, jifb, ltT, ltF, leT, leF, eqT, eqF, jlt, jle, jeq, jlt0, jle0, jeq0, jge0, jgt0, jinB, jnat, clt, cle, ceq, cgt, cge, lI_add, lI_sub, lI_mul, jadd, jsub, jmul, jneg, jtol, b010, b011, pv_2t, Int.toNat_natCast, Option.some.injEq, exists_eq_left', if_true, if_false]
      exact l3 1601 0 g rfl f w0 (fun q hq => absurd hq (by omega)) _ _ _
  -- one throw of nothing
  have l2 : ∀ (j c : Nat) (g : Hp), j + c = 1601 → wdC h g m to → (∀ q, q < c → zJ g (m + 13) (1601 * to + q) = lI (U 0 ((q : Int) - 800))) → PW d 222 24 [some (.ref m), some (.int (iI a)), some (.int (iI k)), some (.int (iI to)), some (.long (lI x)), none, some (.int (iI c)), none, none, none, none] [] g Q := by
    intro j
    induction j with
    | zero =>
      intro c g hc f hW
      have e : c = 1601 := by omega
      subst e
      refine vs_ok 3 ?_
      rw [show ((gRes 222).drop 24).take 3 = [.iload 6, .iconst 1601, .if_icmp .ge 43] from rfl]
      simp (disch := omega) only [vs_iconst, vs_if_icmp, vs_iload6, vs_nil, gv_0, gv_1, gv_2, gv_3, pv_0, pv_1, va_rf_s, Nat.reduceDiv, Nat.reduceMod, Nat.reduceAdd, Nat.reduceMul, Int.reduceToNat, true_and, and_true, and_self, cP_eq, cP_ne, cP_lt, cP_ge, cP_gt, cP_le, eL_i, eL_l, eL_r, eL_n, Option.toList_none, Option.toList_some, List.nil_append, List.cons_append, kkI, llI, nnI, rrI, jjI, kkJ, llJ, nnJ, rrJ, iiJ, zIIs, zJJs, nEF, nET, and_false, false_and, jmin, jmax, catS_n, catS_i, catS_r, catS_l, Nat.reduceLeDiff, j1eq1, n21, jt0, jt1, Bool.false_eq_true, Classical.not_not, true_or, or_true, false_or, or_false, true_imp_iff, false_imp_iff, not_true_eq_false, not_false_eq_true, jif0, jif1, jifb, ltT, ltF, leT, leF, eqT, eqF, jlt, jle, jeq, jlt0, jle0, jeq0, jge0, jgt0, jinB, jnat, clt, cle, ceq, cgt, cge, lI_add, lI_sub, lI_mul, jadd, jsub, jmul, jneg, jtol, b010, b011, pv_2t, Int.toNat_natCast, Option.some.injEq, exists_eq_left', if_true, if_false]
      refine vs_ok 2 ?_
      rw [show ((gRes 222).drop 43).take 2 = [.iconst 0, .istore 6] from rfl]
      simp (disch := omega) only [vs_iconst, vs_istore6n, vs_istore6i, vs_istore6r, vs_istore6l, vs_nil, gv_0, gv_1, gv_2, gv_3, pv_0, pv_1, va_rf_s, Nat.reduceDiv, Nat.reduceMod, Nat.reduceAdd, Nat.reduceMul, Int.reduceToNat, true_and, and_true, and_self, cP_eq, cP_ne, cP_lt, cP_ge, cP_gt, cP_le, eL_i, eL_l, eL_r, eL_n, Option.toList_none, Option.toList_some, List.nil_append, List.cons_append, kkI, llI, nnI, rrI, jjI, kkJ, llJ, nnJ, rrJ, iiJ, zIIs, zJJs, nEF, nET, and_false, false_and, jmin, jmax, catS_n, catS_i, catS_r, catS_l, Nat.reduceLeDiff, j1eq1, n21, jt0, jt1, Bool.false_eq_true, Classical.not_not, true_or, or_true, false_or, or_false, true_imp_iff, false_imp_iff, not_true_eq_false, not_false_eq_true, jif0, jif1, jifb, ltT, ltF, leT, leF, eqT, eqF, jlt, jle, jeq, jlt0, jle0, jeq0, jge0, jgt0, jinB, jnat, clt, cle, ceq, cgt, cge, lI_add, lI_sub, lI_mul, jadd, jsub, jmul, jneg, jtol, b010, b011, pv_2t, Int.toNat_natCast, Option.some.injEq, exists_eq_left', if_true, if_false]
      exact rd k 0 _ _ _ _ g (by omega) f hW
    | succ j ih =>
      intro c g hc f hW
      have hg := hm.fi f.1
      have Mg := hg.k
      have Aw := hg.wide
      have nx : ∀ z : Int, z = U 0 ((c : Int) - 800) → wdC h (zsJ g (m + 13) (1601 * to + c) (lI z)) m to ∧ ∀ q, q < c + 1 → zJ (zsJ g (m + 13) (1601 * to + c) (lI z)) (m + 13) (1601 * to + q) = lI (U 0 ((q : Int) - 800)) := fun z hz => by
        refine ⟨f.J (by omega), fun q hq => ?_⟩
        rw [zJ_sJ]
        by_cases y : q = c
        · rw [if_pos ⟨rfl, by omega⟩, y, hz]
        · rw [if_neg (by omega)]
          exact hW q (by omega)
      by_cases c8 : c = 800
      · obtain ⟨n1, n2⟩ := nx 1 (by rw [U0, if_pos (by omega)])
        refine vs_ok 3 ?_
        rw [show ((gRes 222).drop 24).take 3 = [.iload 6, .iconst 1601, .if_icmp .ge 43] from rfl]
        simp (disch := omega) only [vs_iconst, vs_if_icmp, vs_iload6, vs_nil, gv_0, gv_1, gv_2, gv_3, pv_0, pv_1, va_rf_s, Nat.reduceDiv, Nat.reduceMod, Nat.reduceAdd, Nat.reduceMul, Int.reduceToNat, true_and, and_true, and_self, cP_eq, cP_ne, cP_lt, cP_ge, cP_gt, cP_le, eL_i, eL_l, eL_r, eL_n, Option.toList_none, Option.toList_some, List.nil_append, List.cons_append, kkI, llI, nnI, rrI, jjI, kkJ, llJ, nnJ, rrJ, iiJ, zIIs, zJJs, nEF, nET, and_false, false_and, jmin, jmax, catS_n, catS_i, catS_r, catS_l, Nat.reduceLeDiff, j1eq1, n21, jt0, jt1, Bool.false_eq_true, Classical.not_not, true_or, or_true, false_or, or_false, true_imp_iff, false_imp_iff, not_true_eq_false, not_false_eq_true, jif0, jif1, jifb, ltT, ltF, leT, leF, eqT, eqF, jlt, jle, jeq, jlt0, jle0, jeq0, jge0, jgt0, jinB, jnat, clt, cle, ceq, cgt, cge, lI_add, lI_sub, lI_mul, jadd, jsub, jmul, jneg, jtol, b010, b011, pv_2t, Int.toNat_natCast, Option.some.injEq, exists_eq_left', if_true, if_false]
        refine vs_ok 10 ?_
        rw [show ((gRes 222).drop 27).take 10 = [.aload 0, .getfield 12242, .iconst 1601, .iload 3, .imul, .iload 6, .iadd, .iload 6, .iconst 800, .if_icmp .ne 39] from rfl]
        simp (disch := omega) only [vs_iadd, vs_imul, vs_iconst, vs_if_icmp, vs_getfield, vs_aload0, vs_iload3, vs_iload6, vs_nil, gv_0, gv_1, gv_2, gv_3, pv_0, pv_1, va_rf_s, Nat.reduceDiv, Nat.reduceMod, Nat.reduceAdd, Nat.reduceMul, Int.reduceToNat, true_and, and_true, and_self, cP_eq, cP_ne, cP_lt, cP_ge, cP_gt, cP_le, eL_i, eL_l, eL_r, eL_n, Option.toList_none, Option.toList_some, List.nil_append, List.cons_append, kkI, llI, nnI, rrI, jjI, kkJ, llJ, nnJ, rrJ, iiJ, zIIs, zJJs, nEF, nET, and_false, false_and, jmin, jmax, catS_n, catS_i, catS_r, catS_l, Nat.reduceLeDiff, j1eq1, n21, jt0, jt1, Bool.false_eq_true, Classical.not_not, true_or, or_true, false_or, or_false, true_imp_iff, false_imp_iff, not_true_eq_false, not_false_eq_true, jif0, jif1, jifb, ltT, ltF, leT, leF, eqT, eqF, jlt, jle, jeq, jlt0, jle0, jeq0, jge0, jgt0, jinB, jnat, clt, cle, ceq, cgt, cge, lI_add, lI_sub, lI_mul, jadd, jsub, jmul, jneg, jtol, b010, b011, pv_2t, Int.toNat_natCast, Option.some.injEq, exists_eq_left', if_true, if_false, Mg, Aw, e16]
        refine vs_ok 2 ?_
        rw [show ((gRes 222).drop 37).take 2 = [.jsr_w 1, .goto 40] from rfl]
        simp (disch := omega) only [vs_jsr_w, vs_goto, vs_nil, gv_0, gv_1, gv_2, gv_3, pv_0, pv_1, va_rf_s, Nat.reduceDiv, Nat.reduceMod, Nat.reduceAdd, Nat.reduceMul, Int.reduceToNat, true_and, and_true, and_self, cP_eq, cP_ne, cP_lt, cP_ge, cP_gt, cP_le, eL_i, eL_l, eL_r, eL_n, Option.toList_none, Option.toList_some, List.nil_append, List.cons_append, kkI, llI, nnI, rrI, jjI, kkJ, llJ, nnJ, rrJ, iiJ, zIIs, zJJs, nEF, nET, and_false, false_and, jmin, jmax, catS_n, catS_i, catS_r, catS_l, Nat.reduceLeDiff, j1eq1, n21, jt0, jt1, Bool.false_eq_true, Classical.not_not, true_or, or_true, false_or, or_false, true_imp_iff, false_imp_iff, not_true_eq_false, not_false_eq_true, jif0, jif1, jifb, ltT, ltF, leT, leF, eqT, eqF, jlt, jle, jeq, jlt0, jle0, jeq0, jge0, jgt0, jinB, jnat, clt, cle, ceq, cgt, cge, lI_add, lI_sub, lI_mul, jadd, jsub, jmul, jneg, jtol, b010, b011, pv_2t, Int.toNat_natCast, Option.some.injEq, exists_eq_left', if_true, if_false]
        refine vs_ok 3 ?_
        rw [show ((gRes 222).drop 40).take 3 = [.lastore, .iinc 6 1, .goto 24] from rfl]
        simp (disch := omega) only [vs_goto, vs_lastore, vs_iinc6n, vs_iinc6i, vs_iinc6r, vs_iinc6l, vs_nil, gv_0, gv_1, gv_2, gv_3, pv_0, pv_1, va_rf_s, Nat.reduceDiv, Nat.reduceMod, Nat.reduceAdd, Nat.reduceMul, Int.reduceToNat, true_and, and_true, and_self, cP_eq, cP_ne, cP_lt, cP_ge, cP_gt, cP_le, eL_i, eL_l, eL_r, eL_n, Option.toList_none, Option.toList_some, List.nil_append, List.cons_append, kkI, llI, nnI, rrI, jjI, kkJ, llJ, nnJ, rrJ, iiJ, zIIs, zJJs, nEF, nET, and_false, false_and, jmin, jmax, catS_n, catS_i, catS_r, catS_l, Nat.reduceLeDiff, j1eq1, n21, jt0, jt1, Bool.false_eq_true, Classical.not_not, true_or, or_true, false_or, or_false, true_imp_iff, false_imp_iff, not_true_eq_false, not_false_eq_true, jif0, jif1, jifb, ltT, ltF, leT, leF, eqT, eqF, jlt, jle, jeq, jlt0, jle0, jeq0, jge0, jgt0, jinB, jnat, clt, cle, ceq, cgt, cge, lI_add, lI_sub, lI_mul, jadd, jsub, jmul, jneg, jtol, b010, b011, pv_2t, Int.toNat_natCast, Option.some.injEq, exists_eq_left', if_true, if_false, Aw]
        exact ih (c + 1) _ (by omega) n1 n2
      · obtain ⟨n1, n2⟩ := nx 0 (by rw [U0, if_neg (by omega)])
        refine vs_ok 3 ?_
        rw [show ((gRes 222).drop 24).take 3 = [.iload 6, .iconst 1601, .if_icmp .ge 43] from rfl]
        simp (disch := omega) only [vs_iconst, vs_if_icmp, vs_iload6, vs_nil, gv_0, gv_1, gv_2, gv_3, pv_0, pv_1, va_rf_s, Nat.reduceDiv, Nat.reduceMod, Nat.reduceAdd, Nat.reduceMul, Int.reduceToNat, true_and, and_true, and_self, cP_eq, cP_ne, cP_lt, cP_ge, cP_gt, cP_le, eL_i, eL_l, eL_r, eL_n, Option.toList_none, Option.toList_some, List.nil_append, List.cons_append, kkI, llI, nnI, rrI, jjI, kkJ, llJ, nnJ, rrJ, iiJ, zIIs, zJJs, nEF, nET, and_false, false_and, jmin, jmax, catS_n, catS_i, catS_r, catS_l, Nat.reduceLeDiff, j1eq1, n21, jt0, jt1, Bool.false_eq_true, Classical.not_not, true_or, or_true, false_or, or_false, true_imp_iff, false_imp_iff, not_true_eq_false, not_false_eq_true, jif0, jif1, jifb, ltT, ltF, leT, leF, eqT, eqF, jlt, jle, jeq, jlt0, jle0, jeq0, jge0, jgt0, jinB, jnat, clt, cle, ceq, cgt, cge, lI_add, lI_sub, lI_mul, jadd, jsub, jmul, jneg, jtol, b010, b011, pv_2t, Int.toNat_natCast, Option.some.injEq, exists_eq_left', if_true, if_false]
        refine vs_ok 10 ?_
        rw [show ((gRes 222).drop 27).take 10 = [.aload 0, .getfield 12242, .iconst 1601, .iload 3, .imul, .iload 6, .iadd, .iload 6, .iconst 800, .if_icmp .ne 39] from rfl]
        simp (disch := omega) only [vs_iadd, vs_imul, vs_iconst, vs_if_icmp, vs_getfield, vs_aload0, vs_iload3, vs_iload6, vs_nil, gv_0, gv_1, gv_2, gv_3, pv_0, pv_1, va_rf_s, Nat.reduceDiv, Nat.reduceMod, Nat.reduceAdd, Nat.reduceMul, Int.reduceToNat, true_and, and_true, and_self, cP_eq, cP_ne, cP_lt, cP_ge, cP_gt, cP_le, eL_i, eL_l, eL_r, eL_n, Option.toList_none, Option.toList_some, List.nil_append, List.cons_append, kkI, llI, nnI, rrI, jjI, kkJ, llJ, nnJ, rrJ, iiJ, zIIs, zJJs, nEF, nET, and_false, false_and, jmin, jmax, catS_n, catS_i, catS_r, catS_l, Nat.reduceLeDiff, j1eq1, n21, jt0, jt1, Bool.false_eq_true, Classical.not_not, true_or, or_true, false_or, or_false, true_imp_iff, false_imp_iff, not_true_eq_false, not_false_eq_true, jif0, jif1, jifb, ltT, ltF, leT, leF, eqT, eqF, jlt, jle, jeq, jlt0, jle0, jeq0, jge0, jgt0, jinB, jnat, clt, cle, ceq, cgt, cge, lI_add, lI_sub, lI_mul, jadd, jsub, jmul, jneg, jtol, b010, b011, pv_2t, Int.toNat_natCast, Option.some.injEq, exists_eq_left', if_true, if_false, Mg, Aw, e16]
        refine vs_ok 1 ?_
        rw [show ((gRes 222).drop 39).take 1 = [.jsr_w 0] from rfl]
        simp (disch := omega) only [vs_jsr_w, vs_nil, gv_0, gv_1, gv_2, gv_3, pv_0, pv_1, va_rf_s, Nat.reduceDiv, Nat.reduceMod, Nat.reduceAdd, Nat.reduceMul, Int.reduceToNat, true_and, and_true, and_self, cP_eq, cP_ne, cP_lt, cP_ge, cP_gt, cP_le, eL_i, eL_l, eL_r, eL_n, Option.toList_none, Option.toList_some, List.nil_append, List.cons_append, kkI, llI, nnI, rrI, jjI, kkJ, llJ, nnJ, rrJ, iiJ, zIIs, zJJs, nEF, nET, and_false, false_and, jmin, jmax, catS_n, catS_i, catS_r, catS_l, Nat.reduceLeDiff, j1eq1, n21, jt0, jt1, Bool.false_eq_true, Classical.not_not, true_or, or_true, false_or, or_false, true_imp_iff, false_imp_iff, not_true_eq_false, not_false_eq_true, jif0, jif1, jifb, ltT, ltF, leT, leF, eqT, eqF, jlt, jle, jeq, jlt0, jle0, jeq0, jge0, jgt0, jinB, jnat, clt, cle, ceq, cgt, cge, lI_add, lI_sub, lI_mul, jadd, jsub, jmul, jneg, jtol, b010, b011, pv_2t, Int.toNat_natCast, Option.some.injEq, exists_eq_left', if_true, if_false]
        refine vs_ok 3 ?_
        rw [show ((gRes 222).drop 40).take 3 = [.lastore, .iinc 6 1, .goto 24] from rfl]
        simp (disch := omega) only [vs_goto, vs_lastore, vs_iinc6n, vs_iinc6i, vs_iinc6r, vs_iinc6l, vs_nil, gv_0, gv_1, gv_2, gv_3, pv_0, pv_1, va_rf_s, Nat.reduceDiv, Nat.reduceMod, Nat.reduceAdd, Nat.reduceMul, Int.reduceToNat, true_and, and_true, and_self, cP_eq, cP_ne, cP_lt, cP_ge, cP_gt, cP_le, eL_i, eL_l, eL_r, eL_n, Option.toList_none, Option.toList_some, List.nil_append, List.cons_append, kkI, llI, nnI, rrI, jjI, kkJ, llJ, nnJ, rrJ, iiJ, zIIs, zJJs, nEF, nET, and_false, false_and, jmin, jmax, catS_n, catS_i, catS_r, catS_l, Nat.reduceLeDiff, j1eq1, n21, jt0, jt1, Bool.false_eq_true, Classical.not_not, true_or, or_true, false_or, or_false, true_imp_iff, false_imp_iff, not_true_eq_false, not_false_eq_true, jif0, jif1, jifb, ltT, ltF, leT, leF, eqT, eqF, jlt, jle, jeq, jlt0, jle0, jeq0, jge0, jgt0, jinB, jnat, clt, cle, ceq, cgt, cge, lI_add, lI_sub, lI_mul, jadd, jsub, jmul, jneg, jtol, b010, b011, pv_2t, Int.toNat_natCast, Option.some.injEq, exists_eq_left', if_true, if_false, Aw]
        exact ih (c + 1) _ (by omega) n1 n2
  refine vs_ok 2 ?_
  rw [show ((gRes 222).drop 22).take 2 = [.iconst 0, .istore 6] from rfl]
  simp (disch := omega) only [vs_iconst, vs_istore6n, vs_istore6i, vs_istore6r, vs_istore6l, vs_nil, gv_0, gv_1, gv_2, gv_3, pv_0, pv_1, va_rf_s, Nat.reduceDiv, Nat.reduceMod, Nat.reduceAdd, Nat.reduceMul, Int.reduceToNat, true_and, and_true, and_self, cP_eq, cP_ne, cP_lt, cP_ge, cP_gt, cP_le, eL_i, eL_l, eL_r, eL_n, Option.toList_none, Option.toList_some, List.nil_append, List.cons_append, kkI, llI, nnI, rrI, jjI, kkJ, llJ, nnJ, rrJ, iiJ, zIIs, zJJs, nEF, nET, and_false, false_and, jmin, jmax, catS_n, catS_i, catS_r, catS_l, Nat.reduceLeDiff, j1eq1, n21, jt0, jt1, Bool.false_eq_true, Classical.not_not, true_or, or_true, false_or, or_false, true_imp_iff, false_imp_iff, not_true_eq_false, not_false_eq_true, jif0, jif1, jifb, ltT, ltF, leT, leF, eqT, eqF, jlt, jle, jeq, jlt0, jle0, jeq0, jge0, jgt0, jinB, jnat, clt, cle, ceq, cgt, cge, lI_add, lI_sub, lI_mul, jadd, jsub, jmul, jneg, jtol, b010, b011, pv_2t, Int.toNat_natCast, Option.some.injEq, exists_eq_left', if_true, if_false]
  exact l2 1601 0 h rfl wdC.rf fun q hq => absurd hq (by omega)
