/-! Bench: join, compare, repeat -/
theorem t_bnDrop {d : Nat} {h : Hp} {b n : Nat} {tm : Bool} {R : Nat → Nat} {Q : Nat → Option Value → Hp → Prop} (hb : bnC h b ((n + 1 : Nat) : Int) tm R) (hq : ∀ h', fr (fun q => q = b) h h' → bnC h' b (n : Int) tm R → Q 0 none h') : PR d 10 [.ref b] h Q := by
  refine t_drop hb fun g f hg => hq g f ?_
  rw [if_pos (by omega)] at hg
  rw [show ((n + 1 : Nat) : Int) - 1 = (n : Int) by omega] at hg
  exact hg
theorem bnC.tm {h : Hp} {b : Nat} {ht : Int} {tm : Bool} {R : Nat → Nat} (hb : bnC h b ht tm R) : fr (fun q => q = b) h (zsI h b 5 (iI 1)) ∧ bnC (zsI h b 5 (iI 1)) b ht true R := by
  have f : fr (fun q => q = b) h (zsI h b 5 (iI 1)) := fr_I rfl
  exact ⟨f, hb.set f rfl (by rw [zI_s, if_neg (by omega)]; exact hb.2.2.1) (by rw [zI_s, if_pos ⟨rfl, rfl⟩]; rfl) hb.2.2.2.2.1⟩
/-- what join leaves of a (below) and b (on top) -/
def jnR (mi : Int32) (a b : RowVal) (st : List RowVal) (tm : Bool) (st2 : List RowVal) (tm2 : Bool) : Prop := st2.length = st.length + 1 ∧ (tm = true → tm2 = true) ∧ (tm = false → ¬ okS mi a b → tm2 = true) ∧ (tm = false → okS mi a b → tm2 = false ∧ st2 = adV mi a b :: st)
theorem t_bnJoin {d : Nat} {h : Hp} {b : Nat} {st : List RowVal} {tm : Bool} {va vb : RowVal} {mi : Int32} {Q : Nat → Option Value → Hp → Prop} (hb : bnS h b (vb :: va :: st) tm) (hmi : mi = 0 ∨ mi = 1) (hq : ∀ h' st2 tm2, fr (bnA b) h h' → bnS h' b st2 tm2 → jnR mi va vb st tm st2 tm2 → Q 0 none h') : PR (d + 4) 9 [.ref b, .int mi] h Q := by
  obtain ⟨hl0, R, V, b1, b2, b3, b4, b5⟩ := hb
  have e2 : (vb :: va :: st).length = st.length + 2 := rfl
  rw [e2] at hl0 b5
  have b1 : bnC h b ((st.length + 1 + 1 : Nat) : Int) tm R := b1
  have F := bF b1
  show PW (d + 4) 9 0 [some (.ref b), some (.int mi)] [] h Q
  -- the end
  have fin : ∀ (g : Hp) (tm2 : Bool) (R2 : Nat → Nat) (V2 : Nat → RowVal), fr (bnA b) h g → bnC g b ((st.length + 1 + 1 : Nat) : Int) tm2 R2 → bnV g R2 V2 → bnZ g b → (∀ i, i < 26 → rB (V2 i)) → (tm = true → tm2 = true) → (tm = false → ¬ okS mi va vb → tm2 = true) → (tm = false → okS mi va vb → tm2 = false ∧ V2 st.length = adV mi va vb ∧ ∀ i, i < st.length → V2 i = V i) → PW (d + 4) 9 25 [some (.ref b), some (.int mi)] [] g Q := fun g tm2 R2 V2 f g1 g2 g3 g4 w1 w2 w3 => by
    have F2 := bF g1
    refine vs_ok 1 ?_
    rw [show ((gRes 9).drop 25).take 1 = [.aload 0] from rfl]
    simp (disch := omega) only [vs_aload0, vs_nil, gv_0, gv_1, gv_2, gv_3, pv_0, pv_1, va_rf_s, Nat.reduceDiv, Nat.reduceMod, Nat.reduceAdd, Nat.reduceMul, Int.reduceToNat, true_and, and_true, and_self, cP_eq, cP_ne, cP_lt, cP_ge, cP_gt, cP_le, eL_i, eL_l, eL_r, eL_n, Option.toList_none, Option.toList_some, List.nil_append, List.cons_append, kkI, llI, nnI, rrI, jjI, kkJ, llJ, nnJ, rrJ, iiJ, zIIs, zJJs, nEF, nET, and_false, false_and, jmin, jmax, catS_n, catS_i, catS_r, catS_l, Nat.reduceLeDiff, j1eq1, n21, jt0, jt1, Bool.false_eq_true, Classical.not_not, true_or, or_true, false_or, or_false, true_imp_iff, false_imp_iff, not_true_eq_false, not_false_eq_true, jif0, jif1, jifb, ltT, ltF, leT, leF, eqT, eqF, jlt, jle, jeq, jlt0, jle0, jeq0, jge0, jgt0, jinB, jnat, clt, cle, ceq, cgt, cge, lI_add, lI_sub, lI_mul, jadd, jsub, jmul, jneg, jtol, b010, b011, pv_2t, Int.toNat_natCast, Option.some.injEq, exists_eq_left', if_true, if_false]
    refine PW.iv rfl rfl rfl F2.1.1 F2.1.2 (le_b rfl) (le_b rfl) ?_
    refine t_bnDrop g1 fun g5 f5 g6 => ⟨rfl, ⟨f5.2.2.1, rfl⟩, ?_⟩
    refine vs_ok 1 ?_
    rw [show ((gRes 9).drop 27).take 1 = [.return_] from rfl]
    simp (disch := omega) only [vs_return_, vs_nil, gv_0, gv_1, gv_2, gv_3, pv_0, pv_1, va_rf_s, Nat.reduceDiv, Nat.reduceMod, Nat.reduceAdd, Nat.reduceMul, Int.reduceToNat, true_and, and_true, and_self, cP_eq, cP_ne, cP_lt, cP_ge, cP_gt, cP_le, eL_i, eL_l, eL_r, eL_n, Option.toList_none, Option.toList_some, List.nil_append, List.cons_append, kkI, llI, nnI, rrI, jjI, kkJ, llJ, nnJ, rrJ, iiJ, zIIs, zJJs, nEF, nET, and_false, false_and, jmin, jmax, catS_n, catS_i, catS_r, catS_l, Nat.reduceLeDiff, j1eq1, n21, jt0, jt1, Bool.false_eq_true, Classical.not_not, true_or, or_true, false_or, or_false, true_imp_iff, false_imp_iff, not_true_eq_false, not_false_eq_true, jif0, jif1, jifb, ltT, ltF, leT, leF, eqT, eqF, jlt, jle, jeq, jlt0, jle0, jeq0, jge0, jgt0, jinB, jnat, clt, cle, ceq, cgt, cge, lI_add, lI_sub, lI_mul, jadd, jsub, jmul, jneg, jtol, b010, b011, pv_2t, Int.toNat_natCast, Option.some.injEq, exists_eq_left', if_true, if_false, show gRc 9 = 0 from rfl]
    have f6 : fr (bnA b) h g5 := f.tr (f5.wk fun q z => by unfold bnA; omega)
    have k1 : bnV g5 R2 V2 := bnV.keep g1 g2 f5 (fun q z => by omega)
    have k2 : bnZ g5 b := g3.keep' f5 (fun q z => by omega)
    cases tm2 with
    | true =>
      refine hq g5 (va :: st) true f6 ⟨by show st.length + 1 ≤ 24; omega, R2, V2, g6, k1, k2, g4, fun z => (by simp at z)⟩ ⟨rfl, fun _ => rfl, fun _ _ => rfl, fun z1 z2 => ?_⟩
      have := (w3 z1 z2).1
      simp at this
    | false =>
      have t0 : tm = false := by
        cases tm with
        | true => simpa using w1 rfl
        | false => rfl
      have ok : okS mi va vb := Classical.byContradiction fun z => by simpa using w2 t0 z
      obtain ⟨-, y1, y2⟩ := w3 t0 ok
      have q0 := b5 t0 0 vb rfl
      have q1 := b5 t0 1 va rfl
      refine hq g5 (adV mi va vb :: st) false f6 ⟨by show st.length + 1 ≤ 24; omega, R2, V2, g6, k1, k2, g4, fun _ i v hi => ?_⟩ ⟨rfl, fun z => (by rw [t0] at z; simp at z), fun z1 z2 => absurd ok z2, fun _ _ => ⟨rfl, rfl⟩⟩
      cases i with
      | zero =>
        have : adV mi va vb = v := by simpa using hi
        rw [← this]
        exact ⟨gV_ad q1.1 q0.1 ok, y1⟩
      | succ i =>
        have hi' : st[i]? = some v := by simpa using hi
        have hil := (List.getElem?_eq_some_iff.mp hi').1
        obtain ⟨c1, c2⟩ := b5 t0 (i + 2) v (by simpa using hi')
        refine ⟨c1, ?_⟩
        rw [show (adV mi va vb :: st).length - 1 - (i + 1) = st.length - 1 - i by show st.length + 1 - 1 - (i + 1) = _; omega, y2 _ (by omega), ← c2]
        congr 1
        omega
  cases tm with
  | true =>
    refine vs_ok 3 ?_
    rw [show ((gRes 9).drop 0).take 3 = [.aload 0, .getfield 53, .ifCond .ne 25] from rfl]
    simp (disch := omega) only [vs_ifCond, vs_getfield, vs_aload0, vs_nil, gv_0, gv_1, gv_2, gv_3, pv_0, pv_1, va_rf_s, Nat.reduceDiv, Nat.reduceMod, Nat.reduceAdd, Nat.reduceMul, Int.reduceToNat, true_and, and_true, and_self, cP_eq, cP_ne, cP_lt, cP_ge, cP_gt, cP_le, eL_i, eL_l, eL_r, eL_n, Option.toList_none, Option.toList_some, List.nil_append, List.cons_append, kkI, llI, nnI, rrI, jjI, kkJ, llJ, nnJ, rrJ, iiJ, zIIs, zJJs, nEF, nET, and_false, false_and, jmin, jmax, catS_n, catS_i, catS_r, catS_l, Nat.reduceLeDiff, j1eq1, n21, jt0, jt1, Bool.false_eq_true, Classical.not_not, true_or, or_true, false_or, or_false, true_imp_iff, false_imp_iff, not_true_eq_false, not_false_eq_true, jif0, jif1, jifb, ltT, ltF, leT, leF, eqT, eqF, jlt, jle, jeq, jlt0, jle0, jeq0, jge0, jgt0, jinB, jnat, clt, cle, ceq, cgt, cge, lI_add, lI_sub, lI_mul, jadd, jsub, jmul, jneg, jtol, b010, b011, pv_2t, Int.toNat_natCast, Option.some.injEq, exists_eq_left', if_true, if_false, F, i1e0]
    exact fin h true R V fr.rf b1 b2 b3 b4 (fun _ => rfl) (fun z => (by simp at z)) fun z => (by simp at z)
  | false =>
    have q0 := b5 rfl 0 vb rfl
    have q1 := b5 rfl 1 va rfl
    have e3 : st.length + 2 - 1 - 0 = st.length + 1 := by omega
    have e4 : st.length + 2 - 1 - 1 = st.length := by omega
    rw [e3] at q0
    rw [e4] at q1
    have r24 := b2 24 (by omega)
    have ra := b2 st.length (by omega)
    have rb := b2 (st.length + 1) (by omega)
    rw [q1.2] at ra
    rw [q0.2] at rb
    have ap := bn_at b1 (i := 24) (by omega)
    have za := (rB.b (Or.inl q1.1))
    have zb := (rB.b (Or.inl q0.1))
    refine vs_ok 3 ?_
    rw [show ((gRes 9).drop 0).take 3 = [.aload 0, .getfield 53, .ifCond .ne 25] from rfl]
    simp (disch := omega) only [vs_ifCond, vs_getfield, vs_aload0, vs_nil, gv_0, gv_1, gv_2, gv_3, pv_0, pv_1, va_rf_s, Nat.reduceDiv, Nat.reduceMod, Nat.reduceAdd, Nat.reduceMul, Int.reduceToNat, true_and, and_true, and_self, cP_eq, cP_ne, cP_lt, cP_ge, cP_gt, cP_le, eL_i, eL_l, eL_r, eL_n, Option.toList_none, Option.toList_some, List.nil_append, List.cons_append, kkI, llI, nnI, rrI, jjI, kkJ, llJ, nnJ, rrJ, iiJ, zIIs, zJJs, nEF, nET, and_false, false_and, jmin, jmax, catS_n, catS_i, catS_r, catS_l, Nat.reduceLeDiff, j1eq1, n21, jt0, jt1, Bool.false_eq_true, Classical.not_not, true_or, or_true, false_or, or_false, true_imp_iff, false_imp_iff, not_true_eq_false, not_false_eq_true, jif0, jif1, jifb, ltT, ltF, leT, leF, eqT, eqF, jlt, jle, jeq, jlt0, jle0, jeq0, jge0, jgt0, jinB, jnat, clt, cle, ceq, cgt, cge, lI_add, lI_sub, lI_mul, jadd, jsub, jmul, jneg, jtol, b010, b011, pv_2t, Int.toNat_natCast, Option.some.injEq, exists_eq_left', if_true, if_false, F, i1e0]
    refine vs_ok 6 ?_
    rw [show ((gRes 9).drop 3).take 6 = [.aload 0, .getfield 12, .aload 0, .getfield 2, .aload 0, .iconst 1] from rfl]
    simp (disch := omega) only [vs_iconst, vs_getfield, vs_aload0, vs_nil, gv_0, gv_1, gv_2, gv_3, pv_0, pv_1, va_rf_s, Nat.reduceDiv, Nat.reduceMod, Nat.reduceAdd, Nat.reduceMul, Int.reduceToNat, true_and, and_true, and_self, cP_eq, cP_ne, cP_lt, cP_ge, cP_gt, cP_le, eL_i, eL_l, eL_r, eL_n, Option.toList_none, Option.toList_some, List.nil_append, List.cons_append, kkI, llI, nnI, rrI, jjI, kkJ, llJ, nnJ, rrJ, iiJ, zIIs, zJJs, nEF, nET, and_false, false_and, jmin, jmax, catS_n, catS_i, catS_r, catS_l, Nat.reduceLeDiff, j1eq1, n21, jt0, jt1, Bool.false_eq_true, Classical.not_not, true_or, or_true, false_or, or_false, true_imp_iff, false_imp_iff, not_true_eq_false, not_false_eq_true, jif0, jif1, jifb, ltT, ltF, leT, leF, eqT, eqF, jlt, jle, jeq, jlt0, jle0, jeq0, jge0, jgt0, jinB, jnat, clt, cle, ceq, cgt, cge, lI_add, lI_sub, lI_mul, jadd, jsub, jmul, jneg, jtol, b010, b011, pv_2t, Int.toNat_natCast, Option.some.injEq, exists_eq_left', if_true, if_false, F]
    refine PW.iv rfl rfl rfl F.1.1 F.1.2 (le_b rfl) (le_b rfl) ?_
    refine t_slotN (p := st.length) (k := 1) b1 rfl (by omega) ⟨rfl, ⟨rfl, rfl⟩, ?_⟩
    refine vs_ok 2 ?_
    rw [show ((gRes 9).drop 10).take 2 = [.aaload, .aload 0] from rfl]
    simp (disch := omega) only [vs_aaload, vs_aload0, vs_nil, gv_0, gv_1, gv_2, gv_3, pv_0, pv_1, va_rf_s, Nat.reduceDiv, Nat.reduceMod, Nat.reduceAdd, Nat.reduceMul, Int.reduceToNat, true_and, and_true, and_self, cP_eq, cP_ne, cP_lt, cP_ge, cP_gt, cP_le, eL_i, eL_l, eL_r, eL_n, Option.toList_none, Option.toList_some, List.nil_append, List.cons_append, kkI, llI, nnI, rrI, jjI, kkJ, llJ, nnJ, rrJ, iiJ, zIIs, zJJs, nEF, nET, and_false, false_and, jmin, jmax, catS_n, catS_i, catS_r, catS_l, Nat.reduceLeDiff, j1eq1, n21, jt0, jt1, Bool.false_eq_true, Classical.not_not, true_or, or_true, false_or, or_false, true_imp_iff, false_imp_iff, not_true_eq_false, not_false_eq_true, jif0, jif1, jifb, ltT, ltF, leT, leF, eqT, eqF, jlt, jle, jeq, jlt0, jle0, jeq0, jge0, jgt0, jinB, jnat, clt, cle, ceq, cgt, cge, lI_add, lI_sub, lI_mul, jadd, jsub, jmul, jneg, jtol, b010, b011, pv_2t, Int.toNat_natCast, Option.some.injEq, exists_eq_left', if_true, if_false, F, bR b1 (i := st.length) (by omega)]
    refine PW.iv rfl rfl rfl F.1.1 F.1.2 (le_b rfl) (le_b rfl) ?_
    refine t_topN (p := st.length + 1) b1 (by omega) ⟨rfl, ⟨rfl, decide_eq_true (Or.inl (b2 (st.length + 1) (by omega)).1.2.1)⟩, ?_⟩
    refine vs_ok 1 ?_
    rw [show ((gRes 9).drop 13).take 1 = [.iload 1] from rfl]
    simp (disch := omega) only [vs_iload1, vs_nil, gv_0, gv_1, gv_2, gv_3, pv_0, pv_1, va_rf_s, Nat.reduceDiv, Nat.reduceMod, Nat.reduceAdd, Nat.reduceMul, Int.reduceToNat, true_and, and_true, and_self, cP_eq, cP_ne, cP_lt, cP_ge, cP_gt, cP_le, eL_i, eL_l, eL_r, eL_n, Option.toList_none, Option.toList_some, List.nil_append, List.cons_append, kkI, llI, nnI, rrI, jjI, kkJ, llJ, nnJ, rrJ, iiJ, zIIs, zJJs, nEF, nET, and_false, false_and, jmin, jmax, catS_n, catS_i, catS_r, catS_l, Nat.reduceLeDiff, j1eq1, n21, jt0, jt1, Bool.false_eq_true, Classical.not_not, true_or, or_true, false_or, or_false, true_imp_iff, false_imp_iff, not_true_eq_false, not_false_eq_true, jif0, jif1, jifb, ltT, ltF, leT, leF, eqT, eqF, jlt, jle, jeq, jlt0, jle0, jeq0, jge0, jgt0, jinB, jnat, clt, cle, ceq, cgt, cge, lI_add, lI_sub, lI_mul, jadd, jsub, jmul, jneg, jtol, b010, b011, pv_2t, Int.toNat_natCast, Option.some.injEq, exists_eq_left', if_true, if_false]
    refine PW.iv rfl rfl rfl r24.1.1 r24.1.2.1 (le_b rfl) (le_b rfl) ?_
    refine t_takeSum r24 ra rb (ap.2.2.2 _ (by omega) (by omega)) (ap.2.2.2 _ (by omega) (by omega)) hmi za.1 zb.1 za.2.1 (fun c => ⟨rfl, ⟨rfl, rfl⟩, ?_⟩) fun c g f gr => ⟨rfl, ⟨f.2.2.1, rfl⟩, ?_⟩
    · refine vs_ok 1 ?_
      rw [show ((gRes 9).drop 15).take 1 = [.ifCond .eq 22] from rfl]
      simp (disch := omega) only [vs_ifCond, vs_nil, gv_0, gv_1, gv_2, gv_3, pv_0, pv_1, va_rf_s, Nat.reduceDiv, Nat.reduceMod, Nat.reduceAdd, Nat.reduceMul, Int.reduceToNat, true_and, and_true, and_self, cP_eq, cP_ne, cP_lt, cP_ge, cP_gt, cP_le, eL_i, eL_l, eL_r, eL_n, Option.toList_none, Option.toList_some, List.nil_append, List.cons_append, kkI, llI, nnI, rrI, jjI, kkJ, llJ, nnJ, rrJ, iiJ, zIIs, zJJs, nEF, nET, and_false, false_and, jmin, jmax, catS_n, catS_i, catS_r, catS_l, Nat.reduceLeDiff, j1eq1, n21, jt0, jt1, Bool.false_eq_true, Classical.not_not, true_or, or_true, false_or, or_false, true_imp_iff, false_imp_iff, not_true_eq_false, not_false_eq_true, jif0, jif1, jifb, ltT, ltF, leT, leF, eqT, eqF, jlt, jle, jeq, jlt0, jle0, jeq0, jge0, jgt0, jinB, jnat, clt, cle, ceq, cgt, cge, lI_add, lI_sub, lI_mul, jadd, jsub, jmul, jneg, jtol, b010, b011, pv_2t, Int.toNat_natCast, Option.some.injEq, exists_eq_left', if_true, if_false]
      refine vs_ok 3 ?_
      rw [show ((gRes 9).drop 22).take 3 = [.aload 0, .iconst 1, .putfield 53] from rfl]
      simp (disch := omega) only [vs_iconst, vs_putfield, vs_aload0, vs_nil, gv_0, gv_1, gv_2, gv_3, pv_0, pv_1, va_rf_s, Nat.reduceDiv, Nat.reduceMod, Nat.reduceAdd, Nat.reduceMul, Int.reduceToNat, true_and, and_true, and_self, cP_eq, cP_ne, cP_lt, cP_ge, cP_gt, cP_le, eL_i, eL_l, eL_r, eL_n, Option.toList_none, Option.toList_some, List.nil_append, List.cons_append, kkI, llI, nnI, rrI, jjI, kkJ, llJ, nnJ, rrJ, iiJ, zIIs, zJJs, nEF, nET, and_false, false_and, jmin, jmax, catS_n, catS_i, catS_r, catS_l, Nat.reduceLeDiff, j1eq1, n21, jt0, jt1, Bool.false_eq_true, Classical.not_not, true_or, or_true, false_or, or_false, true_imp_iff, false_imp_iff, not_true_eq_false, not_false_eq_true, jif0, jif1, jifb, ltT, ltF, leT, leF, eqT, eqF, jlt, jle, jeq, jlt0, jle0, jeq0, jge0, jgt0, jinB, jnat, clt, cle, ceq, cgt, cge, lI_add, lI_sub, lI_mul, jadd, jsub, jmul, jneg, jtol, b010, b011, pv_2t, Int.toNat_natCast, Option.some.injEq, exists_eq_left', if_true, if_false, F, pv_31]
      obtain ⟨f1, g1⟩ := b1.tm
      exact fin _ true R V (f1.wk fun q z => by unfold bnA; omega) g1 (bnV.keep b1 b2 f1 fun q z => by omega) (b3.keep' f1 fun q z => by omega) b4 (fun _ => rfl) (fun _ _ => rfl) fun _ z => absurd z c
    · obtain ⟨u0, u1, u2, u3, u4⟩ := bn_put b1 b2 b3 b4 (show 24 < 26 by omega) f (v := adV mi va vb) gr (gV_ad q1.1 q0.1 c)
      have F1 := bF u1
      refine vs_ok 1 ?_
      rw [show ((gRes 9).drop 15).take 1 = [.ifCond .eq 22] from rfl]
      simp (disch := omega) only [vs_ifCond, vs_nil, gv_0, gv_1, gv_2, gv_3, pv_0, pv_1, va_rf_s, Nat.reduceDiv, Nat.reduceMod, Nat.reduceAdd, Nat.reduceMul, Int.reduceToNat, true_and, and_true, and_self, cP_eq, cP_ne, cP_lt, cP_ge, cP_gt, cP_le, eL_i, eL_l, eL_r, eL_n, Option.toList_none, Option.toList_some, List.nil_append, List.cons_append, kkI, llI, nnI, rrI, jjI, kkJ, llJ, nnJ, rrJ, iiJ, zIIs, zJJs, nEF, nET, and_false, false_and, jmin, jmax, catS_n, catS_i, catS_r, catS_l, Nat.reduceLeDiff, j1eq1, n21, jt0, jt1, Bool.false_eq_true, Classical.not_not, true_or, or_true, false_or, or_false, true_imp_iff, false_imp_iff, not_true_eq_false, not_false_eq_true, jif0, jif1, jifb, ltT, ltF, leT, leF, eqT, eqF, jlt, jle, jeq, jlt0, jle0, jeq0, jge0, jgt0, jinB, jnat, clt, cle, ceq, cgt, cge, lI_add, lI_sub, lI_mul, jadd, jsub, jmul, jneg, jtol, b010, b011, pv_2t, Int.toNat_natCast, Option.some.injEq, exists_eq_left', if_true, if_false, i1e0]
      refine vs_ok 3 ?_
      rw [show ((gRes 9).drop 16).take 3 = [.aload 0, .aload 0, .iconst 1] from rfl]
      simp (disch := omega) only [vs_iconst, vs_aload0, vs_nil, gv_0, gv_1, gv_2, gv_3, pv_0, pv_1, va_rf_s, Nat.reduceDiv, Nat.reduceMod, Nat.reduceAdd, Nat.reduceMul, Int.reduceToNat, true_and, and_true, and_self, cP_eq, cP_ne, cP_lt, cP_ge, cP_gt, cP_le, eL_i, eL_l, eL_r, eL_n, Option.toList_none, Option.toList_some, List.nil_append, List.cons_append, kkI, llI, nnI, rrI, jjI, kkJ, llJ, nnJ, rrJ, iiJ, zIIs, zJJs, nEF, nET, and_false, false_and, jmin, jmax, catS_n, catS_i, catS_r, catS_l, Nat.reduceLeDiff, j1eq1, n21, jt0, jt1, Bool.false_eq_true, Classical.not_not, true_or, or_true, false_or, or_false, true_imp_iff, false_imp_iff, not_true_eq_false, not_false_eq_true, jif0, jif1, jifb, ltT, ltF, leT, leF, eqT, eqF, jlt, jle, jeq, jlt0, jle0, jeq0, jge0, jgt0, jinB, jnat, clt, cle, ceq, cgt, cge, lI_add, lI_sub, lI_mul, jadd, jsub, jmul, jneg, jtol, b010, b011, pv_2t, Int.toNat_natCast, Option.some.injEq, exists_eq_left', if_true, if_false]
      refine PW.iv rfl rfl rfl F1.1.1 F1.1.2 (le_b rfl) (le_b rfl) ?_
      refine t_slotN (p := st.length) (k := 1) u1 rfl (by omega) ⟨rfl, ⟨rfl, rfl⟩, ?_⟩
      refine PW.iv rfl rfl rfl F1.1.1 F1.1.2 (le_b rfl) (le_b rfl) ?_
      refine t_swapSpare u1 u2 (s := st.length) (by omega) fun g2 f2 w1 w2 => ⟨rfl, ⟨f2.2.2.1, rfl⟩, ?_⟩
      refine vs_ok 1 ?_
      rw [show ((gRes 9).drop 21).take 1 = [.goto 25] from rfl]
      simp (disch := omega) only [vs_goto, vs_nil, gv_0, gv_1, gv_2, gv_3, pv_0, pv_1, va_rf_s, Nat.reduceDiv, Nat.reduceMod, Nat.reduceAdd, Nat.reduceMul, Int.reduceToNat, true_and, and_true, and_self, cP_eq, cP_ne, cP_lt, cP_ge, cP_gt, cP_le, eL_i, eL_l, eL_r, eL_n, Option.toList_none, Option.toList_some, List.nil_append, List.cons_append, kkI, llI, nnI, rrI, jjI, kkJ, llJ, nnJ, rrJ, iiJ, zIIs, zJJs, nEF, nET, and_false, false_and, jmin, jmax, catS_n, catS_i, catS_r, catS_l, Nat.reduceLeDiff, j1eq1, n21, jt0, jt1, Bool.false_eq_true, Classical.not_not, true_or, or_true, false_or, or_false, true_imp_iff, false_imp_iff, not_true_eq_false, not_false_eq_true, jif0, jif1, jifb, ltT, ltF, leT, leF, eqT, eqF, jlt, jle, jeq, jlt0, jle0, jeq0, jge0, jgt0, jinB, jnat, clt, cle, ceq, cgt, cge, lI_add, lI_sub, lI_mul, jadd, jsub, jmul, jneg, jtol, b010, b011, pv_2t, Int.toNat_natCast, Option.some.injEq, exists_eq_left', if_true, if_false]
      obtain ⟨y1, y2, y3, y4⟩ := bn_swap (ht := (st.length : Int)) (tm := false) (R := R) (s := st.length) (by omega) u4 (if_pos rfl) f2 u3
      refine fin g2 false _ _ (u0.tr (f2.wk fun q z => by unfold bnA; omega)) w1 w2 y1 y2 (fun z => z) (fun _ z => absurd c z) fun _ _ => ⟨rfl, y3, fun i hi => ?_⟩
      refine (y4 i (by omega) (by omega)).trans ?_
      exact if_neg (by omega)
