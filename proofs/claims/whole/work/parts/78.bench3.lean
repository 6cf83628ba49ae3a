/-! Bench: compare, repeat -/
def cmV (w : Int) (a b : RowVal) : RowVal := if w = 267305 then moX a b else enX (if w = 164222 then 1 else 0) a b
abbrev okC (a b : RowVal) : Prop := a.2.2.1 * b.2.2.1 ≤ 1000000000
theorem gV_cm {w : Int} {a b : RowVal} (ha : gV a) (hb : gV b) (hok : okC a b) : gV (cmV w a b) := by
  unfold cmV
  split
  · exact gV_mo ha hb hok
  · exact gV_en ha hb hok
def crR (w : Int) (a b : RowVal) (st : List RowVal) (tm : Bool) (st2 : List RowVal) (tm2 : Bool) : Prop := st2.length = st.length + 1 ∧ (tm = true → tm2 = true) ∧ (tm = false → ¬ okC a b → tm2 = true) ∧ (tm = false → okC a b → tm2 = false ∧ st2 = cmV w a b :: st)
theorem t_bnCompare {d : Nat} {h : Hp} {b : Nat} {st : List RowVal} {tm : Bool} {va vb : RowVal} {w : Int} {Q : Nat → Option Value → Hp → Prop} (hb : bnS h b (vb :: va :: st) tm) (hw : w = 267305 ∨ w = 164222 ∨ w = 9176) (hq : ∀ h' st2 tm2, fr (bnA b) h h' → bnS h' b st2 tm2 → crR w va vb st tm st2 tm2 → Q 0 none h') : PR (d + 4) 12 [.ref b, .int (iI w)] h Q := by
  obtain ⟨hl0, R, V, b1, b2, b3, b4, b5⟩ := hb
  have e2 : (vb :: va :: st).length = st.length + 2 := rfl
  rw [e2] at hl0 b5
  have b1 : bnC h b ((st.length + 1 + 1 : Nat) : Int) tm R := b1
  have F := bF b1
  show PW (d + 4) 12 0 [some (.ref b), some (.int (iI w)), none, none] [] h Q
  have fin : ∀ (g : Hp) (tm2 : Bool) (R2 : Nat → Nat) (V2 : Nat → RowVal) (o2 o3 : Option Value), fr (bnA b) h g → bnC g b ((st.length + 1 + 1 : Nat) : Int) tm2 R2 → bnV g R2 V2 → bnZ g b → (∀ i, i < 26 → rB (V2 i)) → (tm = true → tm2 = true) → (tm = false → ¬ okC va vb → tm2 = true) → (tm = false → okC va vb → tm2 = false ∧ V2 st.length = cmV w va vb ∧ ∀ i, i < st.length → V2 i = V i) → PW (d + 4) 12 45 [some (.ref b), some (.int (iI w)), o2, o3] [] g Q := fun g tm2 R2 V2 o2 o3 f g1 g2 g3 g4 w1 w2 w3 => by
    have F2 := bF g1
    refine vs_ok 1 ?_
    rw [show ((gRes 12).drop 45).take 1 = [.aload 0] from rfl]
    simp (disch := omega) only [vs_aload0, vs_nil, gv_0, gv_1, gv_2, gv_3, pv_0, pv_1, va_rf_s, Nat.reduceDiv, Nat.reduceMod, Nat.reduceAdd, Nat.reduceMul, Int.reduceToNat, true_and, and_true, and_self, cP_eq, cP_ne, cP_lt, cP_ge, cP_gt, cP_le, eL_i, eL_l, eL_r, eL_n, Option.toList_none, Option.toList_some, List.nil_append, List.cons_append, kkI, llI, nnI, rrI, jjI, kkJ, llJ, nnJ, rrJ, iiJ, zIIs, zJJs, nEF, nET, and_false, false_and, jmin, jmax, catS_n, catS_i, catS_r, catS_l, Nat.reduceLeDiff, j1eq1, n21, jt0, jt1, Bool.false_eq_true, Classical.not_not, true_or, or_true, false_or, or_false, true_imp_iff, false_imp_iff, not_true_eq_false, not_false_eq_true, jif0, jif1, jifb, ltT, ltF, leT, leF, eqT, eqF, jlt, jle, jeq, jlt0, jle0, jeq0, jge0, jgt0, jinB, jnat, clt, cle, ceq, cgt, cge, lI_add, lI_sub, lI_mul, jadd, jsub, jmul, jneg, jtol, b010, b011, pv_2t, Int.toNat_natCast, Option.some.injEq, exists_eq_left', if_true, if_false]
    refine PW.iv rfl rfl rfl F2.1.1 F2.1.2 (le_b rfl) (le_b rfl) ?_
    refine t_bnDrop g1 fun g5 f5 g6 => ⟨rfl, ⟨f5.2.2.1, rfl⟩, ?_⟩
    refine vs_ok 1 ?_
    rw [show ((gRes 12).drop 47).take 1 = [.return_] from rfl]
    simp (disch := omega) only [vs_return_, vs_nil, gv_0, gv_1, gv_2, gv_3, pv_0, pv_1, va_rf_s, Nat.reduceDiv, Nat.reduceMod, Nat.reduceAdd, Nat.reduceMul, Int.reduceToNat, true_and, and_true, and_self, cP_eq, cP_ne, cP_lt, cP_ge, cP_gt, cP_le, eL_i, eL_l, eL_r, eL_n, Option.toList_none, Option.toList_some, List.nil_append, List.cons_append, kkI, llI, nnI, rrI, jjI, kkJ, llJ, nnJ, rrJ, iiJ, zIIs, zJJs, nEF, nET, and_false, false_and, jmin, jmax, catS_n, catS_i, catS_r, catS_l, Nat.reduceLeDiff, j1eq1, n21, jt0, jt1, Bool.false_eq_true, Classical.not_not, true_or, or_true, false_or, or_false, true_imp_iff, false_imp_iff, not_true_eq_false, not_false_eq_true, jif0, jif1, jifb, ltT, ltF, leT, leF, eqT, eqF, jlt, jle, jeq, jlt0, jle0, jeq0, jge0, jgt0, jinB, jnat, clt, cle, ceq, cgt, cge, lI_add, lI_sub, lI_mul, jadd, jsub, jmul, jneg, jtol, b010, b011, pv_2t, Int.toNat_natCast, Option.some.injEq, exists_eq_left', if_true, if_false, show gRc 12 = 0 from rfl]
    have f6 : fr (bnA b) h g5 := f.tr (f5.wk fun q z => by unfold bnA; omega)
    have k1 : bnV g5 R2 V2 := bnV.keep g1 g2 f5 (fun q z => by omega)
    have k2 : bnZ g5 b := g3.keep' f5 (fun q z => by omega)
    cases tm2 with
    | true =>
      refine hq g5 (va :: st) true f6 ⟨by show st.length + 1 ≤ 24; omega, R2, V2, g6, k1, k2, g4, fun z => (by simp at z)⟩ ⟨rfl, fun _ => rfl, fun _ _ => rfl, fun z1 z2 => ?_⟩
      have := (w3 z1 z2).1
      simp at this
    | false =>
      have t0 : tm = false := by
        cases tm with
        | true => simpa using w1 rfl
        | false => rfl
      have ok : okC va vb := Classical.byContradiction fun z => by simpa using w2 t0 z
      obtain ⟨-, y1, y2⟩ := w3 t0 ok
      have q0 := b5 t0 0 vb rfl
      have q1 := b5 t0 1 va rfl
      refine hq g5 (cmV w va vb :: st) false f6 ⟨by show st.length + 1 ≤ 24; omega, R2, V2, g6, k1, k2, g4, fun _ i v hi => ?_⟩ ⟨rfl, fun z => (by rw [t0] at z; simp at z), fun z1 z2 => absurd ok z2, fun _ _ => ⟨rfl, rfl⟩⟩
      cases i with
      | zero =>
        have : cmV w va vb = v := by simpa using hi
        rw [← this]
        exact ⟨gV_cm q1.1 q0.1 ok, y1⟩
      | succ i =>
        have hi' : st[i]? = some v := by simpa using hi
        have hil := (List.getElem?_eq_some_iff.mp hi').1
        obtain ⟨c1, c2⟩ := b5 t0 (i + 2) v (by simpa using hi')
        refine ⟨c1, ?_⟩
        rw [show (cmV w va vb :: st).length - 1 - (i + 1) = st.length - 1 - i by show st.length + 1 - 1 - (i + 1) = _; omega, y2 _ (by omega), ← c2]
        congr 1
        omega
  have r24 := b2 24 (by omega)
  have ra := b2 st.length (by omega)
  have rb := b2 (st.length + 1) (by omega)
  have za := (b4 st.length (by omega)).b
  have zb := (b4 (st.length + 1) (by omega)).b
  have ap := bn_at b1 (i := 24) (by omega)
  -- behind tooMany
  have p17 : ∀ (g : Hp) (tm2 : Bool), fr (fun q => q = b) h g → bnC g b ((st.length + 1 + 1 : Nat) : Int) tm2 R → tm2 = (tm || decide (1000000000 < (V st.length).2.2.1 * (V (st.length + 1)).2.2.1)) → PW (d + 4) 12 17 [some (.ref b), some (.int (iI w)), some (.ref (R st.length)), some (.ref (R (st.length + 1)))] [] g Q := fun g tm2 f g1 ht => by
    have F2 := bF g1
    have g2 : bnV g R V := bnV.keep b1 b2 f fun q z => by omega
    have g3 : bnZ g b := b3.keep' f fun q z => by omega
    have fA : fr (bnA b) h g := f.wk fun q z => by unfold bnA; omega
    cases tm2 with
    | true =>
      refine vs_ok 3 ?_
      rw [show ((gRes 12).drop 17).take 3 = [.aload 0, .getfield 53, .ifCond .ne 45] from rfl]
      simp (disch := omega) only [vs_ifCond, vs_getfield, vs_aload0, vs_nil, gv_0, gv_1, gv_2, gv_3, pv_0, pv_1, va_rf_s, Nat.reduceDiv, Nat.reduceMod, Nat.reduceAdd, Nat.reduceMul, Int.reduceToNat, true_and, and_true, and_self, cP_eq, cP_ne, cP_lt, cP_ge, cP_gt, cP_le, eL_i, eL_l, eL_r, eL_n, Option.toList_none, Option.toList_some, List.nil_append, List.cons_append, kkI, llI, nnI, rrI, jjI, kkJ, llJ, nnJ, rrJ, iiJ, zIIs, zJJs, nEF, nET, and_false, false_and, jmin, jmax, catS_n, catS_i, catS_r, catS_l, Nat.reduceLeDiff, j1eq1, n21, jt0, jt1, Bool.false_eq_true, Classical.not_not, true_or, or_true, false_or, or_false, true_imp_iff, false_imp_iff, not_true_eq_false, not_false_eq_true, jif0, jif1, jifb, ltT, ltF, leT, leF, eqT, eqF, jlt, jle, jeq, jlt0, jle0, jeq0, jge0, jgt0, jinB, jnat, clt, cle, ceq, cgt, cge, lI_add, lI_sub, lI_mul, jadd, jsub, jmul, jneg, jtol, b010, b011, pv_2t, Int.toNat_natCast, Option.some.injEq, exists_eq_left', if_true, if_false, F2, i1e0]
      refine fin g true R V _ _ fA g1 g2 g3 b4 (fun _ => rfl) (fun _ _ => rfl) fun z1 z2 => ?_
      exfalso
      have q0 := (b5 z1 0 vb rfl).2
      have q1 := (b5 z1 1 va rfl).2
      rw [show st.length + 2 - 1 - 0 = st.length + 1 by omega] at q0
      rw [show st.length + 2 - 1 - 1 = st.length by omega] at q1
      rw [z1, q0, q1, decide_eq_false (by unfold okC at z2; omega)] at ht
      simp at ht
    | false =>
      have t0 : tm = false := by
        cases tm with
        | true => simp at ht
        | false => rfl
      have q0 := b5 t0 0 vb rfl
      have q1 := b5 t0 1 va rfl
      rw [show st.length + 2 - 1 - 0 = st.length + 1 by omega] at q0
      rw [show st.length + 2 - 1 - 1 = st.length by omega] at q1
      rw [t0, q0.2, q1.2] at ht
      have ok : okC va vb := by
        unfold okC
        by_cases c : 1000000000 < va.2.2.1 * vb.2.2.1
        · rw [decide_eq_true c] at ht
          simp at ht
        · omega
      have h24 := g2 24 (by omega)
      have ha := g2 st.length (by omega)
      have hb := g2 (st.length + 1) (by omega)
      rw [q1.2] at ha
      rw [q0.2] at hb
      have ta := q1.1.2.2.2.2.2
      have tb := q0.1.2.2.2.2.2
      have tp : 0 < va.2.2.1 * vb.2.2.1 := Int.mul_pos (by omega) (by omega)
      -- behind the computation
      have done : ∀ g5, fr (rS (R 24)) g g5 → rowP g5 (R 24) 200 (cmV w va vb) → PW (d + 4) 12 40 [some (.ref b), some (.int (iI w)), some (.ref (R st.length)), some (.ref (R (st.length + 1)))] [] g5 Q := fun g5 f5 gr => by
        obtain ⟨u0, u1, u2, u3, u4⟩ := bn_put g1 g2 g3 b4 (show 24 < 26 by omega) f5 (v := cmV w va vb) gr (gV_cm q1.1 q0.1 ok)
        have F3 := bF u1
        refine vs_ok 3 ?_
        rw [show ((gRes 12).drop 40).take 3 = [.aload 0, .aload 0, .iconst 1] from rfl]
        simp (disch := omega) only [vs_iconst, vs_aload0, vs_nil, gv_0, gv_1, gv_2, gv_3, pv_0, pv_1, va_rf_s, Nat.reduceDiv, Nat.reduceMod, Nat.reduceAdd, Nat.reduceMul, Int.reduceToNat, true_and, and_true, and_self, cP_eq, cP_ne, cP_lt, cP_ge, cP_gt, cP_le, eL_i, eL_l, eL_r, eL_n, Option.toList_none, Option.toList_some, List.nil_append, List.cons_append, kkI, llI, nnI, rrI, jjI, kkJ, llJ, nnJ, rrJ, iiJ, zIIs, zJJs, nEF, nET, and_false, false_and, jmin, jmax, catS_n, catS_i, catS_r, catS_l, Nat.reduceLeDiff, j1eq1, n21, jt0, jt1, Bool.false_eq_true, Classical.not_not, true_or, or_true, false_or, or_false, true_imp_iff, false_imp_iff, not_true_eq_false, not_false_eq_true, jif0, jif1, jifb, ltT, ltF, leT, leF, eqT, eqF, jlt, jle, jeq, jlt0, jle0, jeq0, jge0, jgt0, jinB, jnat, clt, cle, ceq, cgt, cge, lI_add, lI_sub, lI_mul, jadd, jsub, jmul, jneg, jtol, b010, b011, pv_2t, Int.toNat_natCast, Option.some.injEq, exists_eq_left', if_true, if_false]
        refine PW.iv rfl rfl rfl F3.1.1 F3.1.2 (le_b rfl) (le_b rfl) ?_
        refine t_slotN (p := st.length) (k := 1) u1 rfl (by omega) ⟨rfl, ⟨rfl, rfl⟩, ?_⟩
        refine PW.iv rfl rfl rfl F3.1.1 F3.1.2 (le_b rfl) (le_b rfl) ?_
        refine t_swapSpare u1 u2 (s := st.length) (by omega) fun g6 f6 w1 w2 => ⟨rfl, ⟨f6.2.2.1, rfl⟩, ?_⟩
        obtain ⟨y1, y2, y3, y4⟩ := bn_swap (ht := (st.length : Int)) (tm := false) (R := R) (s := st.length) (by omega) u4 (if_pos rfl) f6 u3
        refine fin g6 false _ _ _ _ (fA.tr (u0.tr (f6.wk fun q z => by unfold bnA; omega))) w1 w2 y1 y2 (fun z => by rw [t0] at z; exact z) (fun _ z => absurd ok z) fun _ _ => ⟨rfl, y3, fun i hi => ?_⟩
        refine (y4 i (by omega) (by omega)).trans ?_
        exact if_neg (by omega)
      by_cases c1 : w = 267305
      · unfold cmV at done
        rw [if_pos c1] at done
        refine vs_ok 3 ?_
        rw [show ((gRes 12).drop 17).take 3 = [.aload 0, .getfield 53, .ifCond .ne 45] from rfl]
        simp (disch := omega) only [vs_ifCond, vs_getfield, vs_aload0, vs_nil, gv_0, gv_1, gv_2, gv_3, pv_0, pv_1, va_rf_s, Nat.reduceDiv, Nat.reduceMod, Nat.reduceAdd, Nat.reduceMul, Int.reduceToNat, true_and, and_true, and_self, cP_eq, cP_ne, cP_lt, cP_ge, cP_gt, cP_le, eL_i, eL_l, eL_r, eL_n, Option.toList_none, Option.toList_some, List.nil_append, List.cons_append, kkI, llI, nnI, rrI, jjI, kkJ, llJ, nnJ, rrJ, iiJ, zIIs, zJJs, nEF, nET, and_false, false_and, jmin, jmax, catS_n, catS_i, catS_r, catS_l, Nat.reduceLeDiff, j1eq1, n21, jt0, jt1, Bool.false_eq_true, Classical.not_not, true_or, or_true, false_or, or_false, true_imp_iff, false_imp_iff, not_true_eq_false, not_false_eq_true, jif0, jif1, jifb, ltT, ltF, leT, leF, eqT, eqF, jlt, jle, jeq, jlt0, jle0, jeq0, jge0, jgt0, jinB, jnat, clt, cle, ceq, cgt, cge, lI_add, lI_sub, lI_mul, jadd, jsub, jmul, jneg, jtol, b010, b011, pv_2t, Int.toNat_natCast, Option.some.injEq, exists_eq_left', if_true, if_false, F2]
        refine vs_ok 3 ?_
        rw [show ((gRes 12).drop 20).take 3 = [.iload 1, .iconst 267305, .if_icmp .ne 29] from rfl]
        simp (disch := omega) only [vs_iconst, vs_if_icmp, vs_iload1, vs_nil, gv_0, gv_1, gv_2, gv_3, pv_0, pv_1, va_rf_s, Nat.reduceDiv, Nat.reduceMod, Nat.reduceAdd, Nat.reduceMul, Int.reduceToNat, true_and, and_true, and_self, cP_eq, cP_ne, cP_lt, cP_ge, cP_gt, cP_le, eL_i, eL_l, eL_r, eL_n, Option.toList_none, Option.toList_some, List.nil_append, List.cons_append, kkI, llI, nnI, rrI, jjI, kkJ, llJ, nnJ, rrJ, iiJ, zIIs, zJJs, nEF, nET, and_false, false_and, jmin, jmax, catS_n, catS_i, catS_r, catS_l, Nat.reduceLeDiff, j1eq1, n21, jt0, jt1, Bool.false_eq_true, Classical.not_not, true_or, or_true, false_or, or_false, true_imp_iff, false_imp_iff, not_true_eq_false, not_false_eq_true, jif0, jif1, jifb, ltT, ltF, leT, leF, eqT, eqF, jlt, jle, jeq, jlt0, jle0, jeq0, jge0, jgt0, jinB, jnat, clt, cle, ceq, cgt, cge, lI_add, lI_sub, lI_mul, jadd, jsub, jmul, jneg, jtol, b010, b011, pv_2t, Int.toNat_natCast, Option.some.injEq, exists_eq_left', if_true, if_false]
        refine vs_ok 4 ?_
        rw [show ((gRes 12).drop 23).take 4 = [.aload 0, .getfield 12, .aload 2, .aload 3] from rfl]
        simp (disch := omega) only [vs_getfield, vs_aload0, vs_aload2, vs_aload3, vs_nil, gv_0, gv_1, gv_2, gv_3, pv_0, pv_1, va_rf_s, Nat.reduceDiv, Nat.reduceMod, Nat.reduceAdd, Nat.reduceMul, Int.reduceToNat, true_and, and_true, and_self, cP_eq, cP_ne, cP_lt, cP_ge, cP_gt, cP_le, eL_i, eL_l, eL_r, eL_n, Option.toList_none, Option.toList_some, List.nil_append, List.cons_append, kkI, llI, nnI, rrI, jjI, kkJ, llJ, nnJ, rrJ, iiJ, zIIs, zJJs, nEF, nET, and_false, false_and, jmin, jmax, catS_n, catS_i, catS_r, catS_l, Nat.reduceLeDiff, j1eq1, n21, jt0, jt1, Bool.false_eq_true, Classical.not_not, true_or, or_true, false_or, or_false, true_imp_iff, false_imp_iff, not_true_eq_false, not_false_eq_true, jif0, jif1, jifb, ltT, ltF, leT, leF, eqT, eqF, jlt, jle, jeq, jlt0, jle0, jeq0, jge0, jgt0, jinB, jnat, clt, cle, ceq, cgt, cge, lI_add, lI_sub, lI_mul, jadd, jsub, jmul, jneg, jtol, b010, b011, pv_2t, Int.toNat_natCast, Option.some.injEq, exists_eq_left', if_true, if_false, F2]
        refine PW.iv rfl rfl rfl h24.1.1 h24.1.2.1 (le_b rfl) (le_b rfl) ?_
        refine t_takeMore h24 ha hb (ap.2.2.2 _ (by omega) (by omega)) (ap.2.2.2 _ (by omega) (by omega)) (by omega) (ab_b q1.1 q0.1) (by unfold okC at ok; omega) tp fun g5 f5 v5 => ⟨rfl, ⟨f5.2.2.1, rfl⟩, ?_⟩
        refine vs_ok 1 ?_
        rw [show ((gRes 12).drop 28).take 1 = [.goto 40] from rfl]
        simp (disch := omega) only [vs_goto, vs_nil, gv_0, gv_1, gv_2, gv_3, pv_0, pv_1, va_rf_s, Nat.reduceDiv, Nat.reduceMod, Nat.reduceAdd, Nat.reduceMul, Int.reduceToNat, true_and, and_true, and_self, cP_eq, cP_ne, cP_lt, cP_ge, cP_gt, cP_le, eL_i, eL_l, eL_r, eL_n, Option.toList_none, Option.toList_some, List.nil_append, List.cons_append, kkI, llI, nnI, rrI, jjI, kkJ, llJ, nnJ, rrJ, iiJ, zIIs, zJJs, nEF, nET, and_false, false_and, jmin, jmax, catS_n, catS_i, catS_r, catS_l, Nat.reduceLeDiff, j1eq1, n21, jt0, jt1, Bool.false_eq_true, Classical.not_not, true_or, or_true, false_or, or_false, true_imp_iff, false_imp_iff, not_true_eq_false, not_false_eq_true, jif0, jif1, jifb, ltT, ltF, leT, leF, eqT, eqF, jlt, jle, jeq, jlt0, jle0, jeq0, jge0, jgt0, jinB, jnat, clt, cle, ceq, cgt, cge, lI_add, lI_sub, lI_mul, jadd, jsub, jmul, jneg, jtol, b010, b011, pv_2t, Int.toNat_natCast, Option.some.injEq, exists_eq_left', if_true, if_false]
        refine done g5 f5 ?_
        have e : ∀ (lo hi tot : Int) (W : Int → Int) (r : RowVal), rowV g5 (R 24) 200 lo hi tot W → r = (lo, hi, tot, W) → rowP g5 (R 24) 200 r := fun lo hi tot W r hr e => by rw [e]; exact hr
        exact e _ _ _ _ _ v5 rfl
      · unfold cmV at done
        rw [if_neg c1] at done
        by_cases c2 : w = 164222
        · rw [if_pos c2] at done
          refine vs_ok 3 ?_
          rw [show ((gRes 12).drop 17).take 3 = [.aload 0, .getfield 53, .ifCond .ne 45] from rfl]
          simp (disch := omega) only [vs_ifCond, vs_getfield, vs_aload0, vs_nil, gv_0, gv_1, gv_2, gv_3, pv_0, pv_1, va_rf_s, Nat.reduceDiv, Nat.reduceMod, Nat.reduceAdd, Nat.reduceMul, Int.reduceToNat, true_and, and_true, and_self, cP_eq, cP_ne, cP_lt, cP_ge, cP_gt, cP_le, eL_i, eL_l, eL_r, eL_n, Option.toList_none, Option.toList_some, List.nil_append, List.cons_append, kkI, llI, nnI, rrI, jjI, kkJ, llJ, nnJ, rrJ, iiJ, zIIs, zJJs, nEF, nET, and_false, false_and, jmin, jmax, catS_n, catS_i, catS_r, catS_l, Nat.reduceLeDiff, j1eq1, n21, jt0, jt1, Bool.false_eq_true, Classical.not_not, true_or, or_true, false_or, or_false, true_imp_iff, false_imp_iff, not_true_eq_false, not_false_eq_true, jif0, jif1, jifb, ltT, ltF, leT, leF, eqT, eqF, jlt, jle, jeq, jlt0, jle0, jeq0, jge0, jgt0, jinB, jnat, clt, cle, ceq, cgt, cge, lI_add, lI_sub, lI_mul, jadd, jsub, jmul, jneg, jtol, b010, b011, pv_2t, Int.toNat_natCast, Option.some.injEq, exists_eq_left', if_true, if_false, F2]
          refine vs_ok 3 ?_
          rw [show ((gRes 12).drop 20).take 3 = [.iload 1, .iconst 267305, .if_icmp .ne 29] from rfl]
          simp (disch := omega) only [vs_iconst, vs_if_icmp, vs_iload1, vs_nil, gv_0, gv_1, gv_2, gv_3, pv_0, pv_1, va_rf_s, Nat.reduceDiv, Nat.reduceMod, Nat.reduceAdd, Nat.reduceMul, Int.reduceToNat, true_and, and_true, and_self, cP_eq, cP_ne, cP_lt, cP_ge, cP_gt, cP_le, eL_i, eL_l, eL_r, eL_n, Option.toList_none, Option.toList_some, List.nil_append, List.cons_append, kkI, llI, nnI, rrI, jjI, kkJ, llJ, nnJ, rrJ, iiJ, zIIs, zJJs, nEF, nET, and_false, false_and, jmin, jmax, catS_n, catS_i, catS_r, catS_l, Nat.reduceLeDiff, j1eq1, n21, jt0, jt1, Bool.false_eq_true, Classical.not_not, true_or, or_true, false_or, or_false, true_imp_iff, false_imp_iff, not_true_eq_false, not_false_eq_true, jif0, jif1, jifb, ltT, ltF, leT, leF, eqT, eqF, jlt, jle, jeq, jlt0, jle0, jeq0, jge0, jgt0, jinB, jnat, clt, cle, ceq, cgt, cge, lI_add, lI_sub, lI_mul, jadd, jsub, jmul, jneg, jtol, b010, b011, pv_2t, Int.toNat_natCast, Option.some.injEq, exists_eq_left', if_true, if_false]
          refine vs_ok 7 ?_
          rw [show ((gRes 12).drop 29).take 7 = [.aload 0, .getfield 12, .aload 2, .aload 3, .iload 1, .iconst 164222, .if_icmp .ne 38] from rfl]
          simp (disch := omega) only [vs_iconst, vs_if_icmp, vs_getfield, vs_aload0, vs_iload1, vs_aload2, vs_aload3, vs_nil, gv_0, gv_1, gv_2, gv_3, pv_0, pv_1, va_rf_s, Nat.reduceDiv, Nat.reduceMod, Nat.reduceAdd, Nat.reduceMul, Int.reduceToNat, true_and, and_true, and_self, cP_eq, cP_ne, cP_lt, cP_ge, cP_gt, cP_le, eL_i, eL_l, eL_r, eL_n, Option.toList_none, Option.toList_some, List.nil_append, List.cons_append, kkI, llI, nnI, rrI, jjI, kkJ, llJ, nnJ, rrJ, iiJ, zIIs, zJJs, nEF, nET, and_false, false_and, jmin, jmax, catS_n, catS_i, catS_r, catS_l, Nat.reduceLeDiff, j1eq1, n21, jt0, jt1, Bool.false_eq_true, Classical.not_not, true_or, or_true, false_or, or_false, true_imp_iff, false_imp_iff, not_true_eq_false, not_false_eq_true, jif0, jif1, jifb, ltT, ltF, leT, leF, eqT, eqF, jlt, jle, jeq, jlt0, jle0, jeq0, jge0, jgt0, jinB, jnat, clt, cle, ceq, cgt, cge, lI_add, lI_sub, lI_mul, jadd, jsub, jmul, jneg, jtol, b010, b011, pv_2t, Int.toNat_natCast, Option.some.injEq, exists_eq_left', if_true, if_false, F2]
          refine vs_ok 2 ?_
          rw [show ((gRes 12).drop 36).take 2 = [.iconst 1, .goto 39] from rfl]
          simp (disch := omega) only [vs_iconst, vs_goto, vs_nil, gv_0, gv_1, gv_2, gv_3, pv_0, pv_1, va_rf_s, Nat.reduceDiv, Nat.reduceMod, Nat.reduceAdd, Nat.reduceMul, Int.reduceToNat, true_and, and_true, and_self, cP_eq, cP_ne, cP_lt, cP_ge, cP_gt, cP_le, eL_i, eL_l, eL_r, eL_n, Option.toList_none, Option.toList_some, List.nil_append, List.cons_append, kkI, llI, nnI, rrI, jjI, kkJ, llJ, nnJ, rrJ, iiJ, zIIs, zJJs, nEF, nET, and_false, false_and, jmin, jmax, catS_n, catS_i, catS_r, catS_l, Nat.reduceLeDiff, j1eq1, n21, jt0, jt1, Bool.false_eq_true, Classical.not_not, true_or, or_true, false_or, or_false, true_imp_iff, false_imp_iff, not_true_eq_false, not_false_eq_true, jif0, jif1, jifb, ltT, ltF, leT, leF, eqT, eqF, jlt, jle, jeq, jlt0, jle0, jeq0, jge0, jgt0, jinB, jnat, clt, cle, ceq, cgt, cge, lI_add, lI_sub, lI_mul, jadd, jsub, jmul, jneg, jtol, b010, b011, pv_2t, Int.toNat_natCast, Option.some.injEq, exists_eq_left', if_true, if_false]
          refine PW.iv rfl rfl rfl h24.1.1 h24.1.2.1 (le_b rfl) (le_b rfl) ?_
          refine t_takeEnd (mi := Int32.ofInt 1) h24 ha hb (ap.2.2.2 _ (by omega) (by omega)) (ap.2.2.2 _ (by omega) (by omega)) ⟨by omega, by omega⟩ fun g5 f5 v5 => ⟨rfl, ⟨f5.2.2.1, rfl⟩, ?_⟩
          exact done g5 f5 v5
        · rw [if_neg c2] at done
          refine vs_ok 3 ?_
          rw [show ((gRes 12).drop 17).take 3 = [.aload 0, .getfield 53, .ifCond .ne 45] from rfl]
          simp (disch := omega) only [vs_ifCond, vs_getfield, vs_aload0, vs_nil, gv_0, gv_1, gv_2, gv_3, pv_0, pv_1, va_rf_s, Nat.reduceDiv, Nat.reduceMod, Nat.reduceAdd, Nat.reduceMul, Int.reduceToNat, true_and, and_true, and_self, cP_eq, cP_ne, cP_lt, cP_ge, cP_gt, cP_le, eL_i, eL_l, eL_r, eL_n, Option.toList_none, Option.toList_some, List.nil_append, List.cons_append, kkI, llI, nnI, rrI, jjI, kkJ, llJ, nnJ, rrJ, iiJ, zIIs, zJJs, nEF, nET, and_false, false_and, jmin, jmax, catS_n, catS_i, catS_r, catS_l, Nat.reduceLeDiff, j1eq1, n21, jt0, jt1, Bool.false_eq_true, Classical.not_not, true_or, or_true, false_or, or_false, true_imp_iff, false_imp_iff, not_true_eq_false, not_false_eq_true, jif0, jif1, jifb, ltT, ltF, leT, leF, eqT, eqF, jlt, jle, jeq, jlt0, jle0, jeq0, jge0, jgt0, jinB, jnat, clt, cle, ceq, cgt, cge, lI_add, lI_sub, lI_mul, jadd, jsub, jmul, jneg, jtol, b010, b011, pv_2t, Int.toNat_natCast, Option.some.injEq, exists_eq_left', if_true, if_false, F2]
          refine vs_ok 3 ?_
          rw [show ((gRes 12).drop 20).take 3 = [.iload 1, .iconst 267305, .if_icmp .ne 29] from rfl]
          simp (disch := omega) only [vs_iconst, vs_if_icmp, vs_iload1, vs_nil, gv_0, gv_1, gv_2, gv_3, pv_0, pv_1, va_rf_s, Nat.reduceDiv, Nat.reduceMod, Nat.reduceAdd, Nat.reduceMul, Int.reduceToNat, true_and, and_true, and_self, cP_eq, cP_ne, cP_lt, cP_ge, cP_gt, cP_le, eL_i, eL_l, eL_r, eL_n, Option.toList_none, Option.toList_some, List.nil_append, List.cons_append, kkI, llI, nnI, rrI, jjI, kkJ, llJ, nnJ, rrJ, iiJ, zIIs, zJJs, nEF, nET, and_false, false_and, jmin, jmax, catS_n, catS_i, catS_r, catS_l, Nat.reduceLeDiff, j1eq1, n21, jt0, jt1, Bool.false_eq_true, Classical.not_not, true_or, or_true, false_or, or_false, true_imp_iff, false_imp_iff, not_true_eq_false, not_false_eq_true, jif0, jif1, jifb, ltT, ltF, leT, leF, eqT, eqF, jlt, jle, jeq, jlt0, jle0, jeq0, jge0, jgt0, jinB, jnat, clt, cle, ceq, cgt, cge, lI_add, lI_sub, lI_mul, jadd, jsub, jmul, jneg, jtol, b010, b011, pv_2t, Int.toNat_natCast, Option.some.injEq, exists_eq_left', if_true, if_false]
          refine vs_ok 7 ?_
          rw [show ((gRes 12).drop 29).take 7 = [.aload 0, .getfield 12, .aload 2, .aload 3, .iload 1, .iconst 164222, .if_icmp .ne 38] from rfl]
          simp (disch := omega) only [vs_iconst, vs_if_icmp, vs_getfield, vs_aload0, vs_iload1, vs_aload2, vs_aload3, vs_nil, gv_0, gv_1, gv_2, gv_3, pv_0, pv_1, va_rf_s, Nat.reduceDiv, Nat.reduceMod, Nat.reduceAdd, Nat.reduceMul, Int.reduceToNat, true_and, and_true, and_self, cP_eq, cP_ne, cP_lt, cP_ge, cP_gt, cP_le, eL_i, eL_l, eL_r, eL_n, Option.toList_none, Option.toList_some, List.nil_append, List.cons_append, kkI, llI, nnI, rrI, jjI, kkJ, llJ, nnJ, rrJ, iiJ, zIIs, zJJs, nEF, nET, and_false, false_and, jmin, jmax, catS_n, catS_i, catS_r, catS_l, Nat.reduceLeDiff, j1eq1, n21, jt0, jt1, Bool.false_eq_true, Classical.not_not, true_or, or_true, false_or, or_false, true_imp_iff, false_imp_iff, not_true_eq_false, not_false_eq_true, jif0, jif1, jifb, ltT, ltF, leT, leF, eqT, eqF, jlt, jle, jeq, jlt0, jle0, jeq0, jge0, jgt0, jinB, jnat, clt, cle, ceq, cgt, cge, lI_add, lI_sub, lI_mul, jadd, jsub, jmul, jneg, jtol, b010, b011, pv_2t, Int.toNat_natCast, Option.some.injEq, exists_eq_left', if_true, if_false, F2]
          refine vs_ok 1 ?_
          rw [show ((gRes 12).drop 38).take 1 = [.iconst 0] from rfl]
          simp (disch := omega) only [vs_iconst, vs_nil, gv_0, gv_1, gv_2, gv_3, pv_0, pv_1, va_rf_s, Nat.reduceDiv, Nat.reduceMod, Nat.reduceAdd, Nat.reduceMul, Int.reduceToNat, true_and, and_true, and_self, cP_eq, cP_ne, cP_lt, cP_ge, cP_gt, cP_le, eL_i, eL_l, eL_r, eL_n, Option.toList_none, Option.toList_some, List.nil_append, List.cons_append, kkI, llI, nnI, rrI, jjI, kkJ, llJ, nnJ, rrJ, iiJ, zIIs, zJJs, nEF, nET, and_false, false_and, jmin, jmax, catS_n, catS_i, catS_r, catS_l, Nat.reduceLeDiff, j1eq1, n21, jt0, jt1, Bool.false_eq_true, Classical.not_not, true_or, or_true, false_or, or_false, true_imp_iff, false_imp_iff, not_true_eq_false, not_false_eq_true, jif0, jif1, jifb, ltT, ltF, leT, leF, eqT, eqF, jlt, jle, jeq, jlt0, jle0, jeq0, jge0, jgt0, jinB, jnat, clt, cle, ceq, cgt, cge, lI_add, lI_sub, lI_mul, jadd, jsub, jmul, jneg, jtol, b010, b011, pv_2t, Int.toNat_natCast, Option.some.injEq, exists_eq_left', if_true, if_false]
          refine PW.iv rfl rfl rfl h24.1.1 h24.1.2.1 (le_b rfl) (le_b rfl) ?_
          refine t_takeEnd (mi := Int32.ofInt 0) h24 ha hb (ap.2.2.2 _ (by omega) (by omega)) (ap.2.2.2 _ (by omega) (by omega)) ⟨by omega, by omega⟩ fun g5 f5 v5 => ⟨rfl, ⟨f5.2.2.1, rfl⟩, ?_⟩
          exact done g5 f5 v5
  refine vs_ok 4 ?_
  rw [show ((gRes 12).drop 0).take 4 = [.aload 0, .getfield 2, .aload 0, .iconst 1] from rfl]
  simp (disch := omega) only [vs_iconst, vs_getfield, vs_aload0, vs_nil, gv_0, gv_1, gv_2, gv_3, pv_0, pv_1, va_rf_s, Nat.reduceDiv, Nat.reduceMod, Nat.reduceAdd, Nat.reduceMul, Int.reduceToNat, true_and, and_true, and_self, cP_eq, cP_ne, cP_lt, cP_ge, cP_gt, cP_le, eL_i, eL_l, eL_r, eL_n, Option.toList_none, Option.toList_some, List.nil_append, List.cons_append, kkI, llI, nnI, rrI, jjI, kkJ, llJ, nnJ, rrJ, iiJ, zIIs, zJJs, nEF, nET, and_false, false_and, jmin, jmax, catS_n, catS_i, catS_r, catS_l, Nat.reduceLeDiff, j1eq1, n21, jt0, jt1, Bool.false_eq_true, Classical.not_not, true_or, or_true, false_or, or_false, true_imp_iff, false_imp_iff, not_true_eq_false, not_false_eq_true, jif0, jif1, jifb, ltT, ltF, leT, leF, eqT, eqF, jlt, jle, jeq, jlt0, jle0, jeq0, jge0, jgt0, jinB, jnat, clt, cle, ceq, cgt, cge, lI_add, lI_sub, lI_mul, jadd, jsub, jmul, jneg, jtol, b010, b011, pv_2t, Int.toNat_natCast, Option.some.injEq, exists_eq_left', if_true, if_false, F]
  refine PW.iv rfl rfl rfl F.1.1 F.1.2 (le_b rfl) (le_b rfl) ?_
  refine t_slotN (p := st.length) (k := 1) b1 rfl (by omega) ⟨rfl, ⟨rfl, rfl⟩, ?_⟩
  refine vs_ok 3 ?_
  rw [show ((gRes 12).drop 5).take 3 = [.aaload, .astore 2, .aload 0] from rfl]
  simp (disch := omega) only [vs_aaload, vs_aload0, vs_astore2n, vs_astore2i, vs_astore2r, vs_astore2l, vs_nil, gv_0, gv_1, gv_2, gv_3, pv_0, pv_1, va_rf_s, Nat.reduceDiv, Nat.reduceMod, Nat.reduceAdd, Nat.reduceMul, Int.reduceToNat, true_and, and_true, and_self, cP_eq, cP_ne, cP_lt, cP_ge, cP_gt, cP_le, eL_i, eL_l, eL_r, eL_n, Option.toList_none, Option.toList_some, List.nil_append, List.cons_append, kkI, llI, nnI, rrI, jjI, kkJ, llJ, nnJ, rrJ, iiJ, zIIs, zJJs, nEF, nET, and_false, false_and, jmin, jmax, catS_n, catS_i, catS_r, catS_l, Nat.reduceLeDiff, j1eq1, n21, jt0, jt1, Bool.false_eq_true, Classical.not_not, true_or, or_true, false_or, or_false, true_imp_iff, false_imp_iff, not_true_eq_false, not_false_eq_true, jif0, jif1, jifb, ltT, ltF, leT, leF, eqT, eqF, jlt, jle, jeq, jlt0, jle0, jeq0, jge0, jgt0, jinB, jnat, clt, cle, ceq, cgt, cge, lI_add, lI_sub, lI_mul, jadd, jsub, jmul, jneg, jtol, b010, b011, pv_2t, Int.toNat_natCast, Option.some.injEq, exists_eq_left', if_true, if_false, F, bR b1 (i := st.length) (by omega)]
  refine PW.iv rfl rfl rfl F.1.1 F.1.2 (le_b rfl) (le_b rfl) ?_
  refine t_topN (p := st.length + 1) b1 (by omega) ⟨rfl, ⟨rfl, decide_eq_true (Or.inl rb.1.2.1)⟩, ?_⟩
  refine vs_ok 3 ?_
  rw [show ((gRes 12).drop 9).take 3 = [.astore 3, .aload 2, .aload 3] from rfl]
  simp (disch := omega) only [vs_aload2, vs_aload3, vs_astore3n, vs_astore3i, vs_astore3r, vs_astore3l, vs_nil, gv_0, gv_1, gv_2, gv_3, pv_0, pv_1, va_rf_s, Nat.reduceDiv, Nat.reduceMod, Nat.reduceAdd, Nat.reduceMul, Int.reduceToNat, true_and, and_true, and_self, cP_eq, cP_ne, cP_lt, cP_ge, cP_gt, cP_le, eL_i, eL_l, eL_r, eL_n, Option.toList_none, Option.toList_some, List.nil_append, List.cons_append, kkI, llI, nnI, rrI, jjI, kkJ, llJ, nnJ, rrJ, iiJ, zIIs, zJJs, nEF, nET, and_false, false_and, jmin, jmax, catS_n, catS_i, catS_r, catS_l, Nat.reduceLeDiff, j1eq1, n21, jt0, jt1, Bool.false_eq_true, Classical.not_not, true_or, or_true, false_or, or_false, true_imp_iff, false_imp_iff, not_true_eq_false, not_false_eq_true, jif0, jif1, jifb, ltT, ltF, leT, leF, eqT, eqF, jlt, jle, jeq, jlt0, jle0, jeq0, jge0, jgt0, jinB, jnat, clt, cle, ceq, cgt, cge, lI_add, lI_sub, lI_mul, jadd, jsub, jmul, jneg, jtol, b010, b011, pv_2t, Int.toNat_natCast, Option.some.injEq, exists_eq_left', if_true, if_false]
  refine PW.ss (r := []) rfl (le_b rfl) rfl rfl (le_b rfl) (le_b rfl) ?_
  refine t_tooMany ra rb za.1 zb.1 ⟨rfl, ⟨rfl, rfl⟩, ?_⟩
  by_cases c : 1000000000 < (V st.length).2.2.1 * (V (st.length + 1)).2.2.1
  · obtain ⟨f1, g1⟩ := b1.tm
    refine vs_ok 1 ?_
    rw [show ((gRes 12).drop 13).take 1 = [.ifCond .eq 17] from rfl]
    simp (disch := omega) only [vs_ifCond, vs_nil, gv_0, gv_1, gv_2, gv_3, pv_0, pv_1, va_rf_s, Nat.reduceDiv, Nat.reduceMod, Nat.reduceAdd, Nat.reduceMul, Int.reduceToNat, true_and, and_true, and_self, cP_eq, cP_ne, cP_lt, cP_ge, cP_gt, cP_le, eL_i, eL_l, eL_r, eL_n, Option.toList_none, Option.toList_some, List.nil_append, List.cons_append, kkI, llI, nnI, rrI, jjI, kkJ, llJ, nnJ, rrJ, iiJ, zIIs, zJJs, nEF, nET, and_false, false_and, jmin, jmax, catS_n, catS_i, catS_r, catS_l, Nat.reduceLeDiff, j1eq1, n21, jt0, jt1, Bool.false_eq_true, Classical.not_not, true_or, or_true, false_or, or_false, true_imp_iff, false_imp_iff, not_true_eq_false, not_false_eq_true, jif0, jif1, jifb, ltT, ltF, leT, leF, eqT, eqF, jlt, jle, jeq, jlt0, jle0, jeq0, jge0, jgt0, jinB, jnat, clt, cle, ceq, cgt, cge, lI_add, lI_sub, lI_mul, jadd, jsub, jmul, jneg, jtol, b010, b011, pv_2t, Int.toNat_natCast, Option.some.injEq, exists_eq_left', if_true, if_false, if_pos c, i1e0]
    refine vs_ok 3 ?_
    rw [show ((gRes 12).drop 14).take 3 = [.aload 0, .iconst 1, .putfield 53] from rfl]
    simp (disch := omega) only [vs_iconst, vs_putfield, vs_aload0, vs_nil, gv_0, gv_1, gv_2, gv_3, pv_0, pv_1, va_rf_s, Nat.reduceDiv, Nat.reduceMod, Nat.reduceAdd, Nat.reduceMul, Int.reduceToNat, true_and, and_true, and_self, cP_eq, cP_ne, cP_lt, cP_ge, cP_gt, cP_le, eL_i, eL_l, eL_r, eL_n, Option.toList_none, Option.toList_some, List.nil_append, List.cons_append, kkI, llI, nnI, rrI, jjI, kkJ, llJ, nnJ, rrJ, iiJ, zIIs, zJJs, nEF, nET, and_false, false_and, jmin, jmax, catS_n, catS_i, catS_r, catS_l, Nat.reduceLeDiff, j1eq1, n21, jt0, jt1, Bool.false_eq_true, Classical.not_not, true_or, or_true, false_or, or_false, true_imp_iff, false_imp_iff, not_true_eq_false, not_false_eq_true, jif0, jif1, jifb, ltT, ltF, leT, leF, eqT, eqF, jlt, jle, jeq, jlt0, jle0, jeq0, jge0, jgt0, jinB, jnat, clt, cle, ceq, cgt, cge, lI_add, lI_sub, lI_mul, jadd, jsub, jmul, jneg, jtol, b010, b011, pv_2t, Int.toNat_natCast, Option.some.injEq, exists_eq_left', if_true, if_false, F, pv_31]
    exact p17 _ true f1 g1 (by rw [decide_eq_true c, Bool.or_true])
  · refine vs_ok 1 ?_
    rw [show ((gRes 12).drop 13).take 1 = [.ifCond .eq 17] from rfl]
    simp (disch := omega) only [vs_ifCond, vs_nil, gv_0, gv_1, gv_2, gv_3, pv_0, pv_1, va_rf_s, Nat.reduceDiv, Nat.reduceMod, Nat.reduceAdd, Nat.reduceMul, Int.reduceToNat, true_and, and_true, and_self, cP_eq, cP_ne, cP_lt, cP_ge, cP_gt, cP_le, eL_i, eL_l, eL_r, eL_n, Option.toList_none, Option.toList_some, List.nil_append, List.cons_append, kkI, llI, nnI, rrI, jjI, kkJ, llJ, nnJ, rrJ, iiJ, zIIs, zJJs, nEF, nET, and_false, false_and, jmin, jmax, catS_n, catS_i, catS_r, catS_l, Nat.reduceLeDiff, j1eq1, n21, jt0, jt1, Bool.false_eq_true, Classical.not_not, true_or, or_true, false_or, or_false, true_imp_iff, false_imp_iff, not_true_eq_false, not_false_eq_true, jif0, jif1, jifb, ltT, ltF, leT, leF, eqT, eqF, jlt, jle, jeq, jlt0, jle0, jeq0, jge0, jgt0, jinB, jnat, clt, cle, ceq, cgt, cge, lI_add, lI_sub, lI_mul, jadd, jsub, jmul, jneg, jtol, b010, b011, pv_2t, Int.toNat_natCast, Option.some.injEq, exists_eq_left', if_true, if_false, if_neg c]
    exact p17 h tm fr.rf b1 (by rw [decide_eq_false c, Bool.or_false])
def rpO (v : RowVal) : Nat → Option RowVal
  | 0 => some v
  | k + 1 => match rpO v k with
    | some u => if okS 0 u v then some (adV 0 u v) else none
    | none => none
theorem rpO_g {v : RowVal} (hv : gV v) : ∀ {k : Nat} {u : RowVal}, rpO v k = some u → gV u
  | 0, u, h => by
    have : v = u := by simpa [rpO] using h
    rw [← this]
    exact hv
  | k + 1, u, h => by
    unfold rpO at h
    cases e : rpO v k with
    | none => rw [e] at h; cases h
    | some w =>
      rw [e] at h
      dsimp only at h
      by_cases c : okS 0 w v
      · rw [if_pos c] at h
        have : adV 0 w v = u := by simpa using h
        rw [← this]
        exact gV_ad (rpO_g hv e) hv c
      · rw [if_neg c] at h
        cases h
theorem rpO_none {v : RowVal} {j k : Nat} (h : rpO v j = none) (hjk : j ≤ k) : rpO v k = none := by
  induction k with
  | zero => rw [← h, show j = 0 by omega]
  | succ k ih =>
    by_cases c : j = k + 1
    · rw [← c]; exact h
    · unfold rpO
      rw [ih (by omega)]
theorem kkR {h : Hp} {a i : Nat} {v : Option Nat} : zK (zsR h a i v) = zK h := rfl
theorem nnR {h : Hp} {a i : Nat} {v : Option Nat} : zN (zsR h a i v) = zN h := rfl
theorem llR {h : Hp} {a i : Nat} {v : Option Nat} : zL (zsR h a i v) = zL h := rfl
theorem iiR {h : Hp} {a i : Nat} {v : Option Nat} : zI (zsR h a i v) = zI h := rfl
theorem jjR {h : Hp} {a i : Nat} {v : Option Nat} : zJ (zsR h a i v) = zJ h := rfl
def sw4 (i : Nat) : Nat := if i = 24 then 25 else if i = 25 then 24 else i
theorem sw4_lt {i : Nat} (h : i < 26) : sw4 i < 26 := by
  unfold sw4
  repeat' split
  all_goals omega
