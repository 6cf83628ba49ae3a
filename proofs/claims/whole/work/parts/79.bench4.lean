/-! Bench: repeat -/
theorem bnC.sw {h : Hp} {b : Nat} {ht : Int} {tm : Bool} {R : Nat → Nat} {V : Nat → RowVal} (hb : bnC h b ht tm R) (hv : bnV h R V) (hz : bnZ h b) (hB : ∀ i, i < 26 → rB (V i)) : fr (fun q => q = b) h (zsR (zsR h b 2 (some (R 24))) b 1 (some (R 25))) ∧ bnC (zsR (zsR h b 2 (some (R 24))) b 1 (some (R 25))) b ht tm (fun i => R (sw4 i)) ∧ bnV (zsR (zsR h b 2 (some (R 24))) b 1 (some (R 25))) (fun i => R (sw4 i)) (fun i => V (sw4 i)) ∧ bnZ (zsR (zsR h b 2 (some (R 24))) b 1 (some (R 25))) b ∧ ∀ i, i < 26 → rB ((fun i => V (sw4 i)) i) := by
  obtain ⟨h1, h2, h3, h4, h5, h6, h7, h8, h9, ha, hc, hd, he, hf⟩ := id hb
  have f : fr (fun q => q = b) h (zsR (zsR h b 2 (some (R 24))) b 1 (some (R 25))) := (fr_R (S := fun q => q = b) rfl).tr (fr_R (S := fun q => q = b) rfl)
  have k := bnV.keep hb hv f fun q z => by omega
  refine ⟨f, ⟨h1, h2, h3, h4, h5, ?_, h7, h8, fun i hi => ?_, ?_, ?_, ?_, fun i hi => he _ (sw4_lt hi), fun i j hi hj e => ?_⟩, fun i hi => k _ (sw4_lt hi), hz.keep' f (fun q z => by omega), fun i hi => hB _ (sw4_lt hi)⟩
  · rw [zR_sR, if_neg (by omega), zR_sR, if_neg (by omega), h6]
  · rw [zR_sR, if_neg (by omega), zR_sR, if_neg (by omega)]
    show _ = some (R (sw4 i))
    unfold sw4
    rw [if_neg (by omega), if_neg (by omega), h9 i hi]
  · rw [zR_sR, if_pos ⟨rfl, rfl⟩]
    rfl
  · rw [zR_sR, if_neg (by omega), zR_sR, if_pos ⟨rfl, rfl⟩]
    rfl
  · rw [zR_sR, if_neg (by omega), zR_sR, if_neg (by omega), hd]
  · have := hf _ _ (sw4_lt hi) (sw4_lt hj) e
    unfold sw4 at this
    repeat' split at this
    all_goals omega
/-- what repeat leaves of v, thrown k + 1 times -/
def rpR (v : RowVal) (k : Nat) (st : List RowVal) (tm : Bool) (st2 : List RowVal) (tm2 : Bool) : Prop := st2.length = st.length + 1 ∧ (tm = true → tm2 = true) ∧ (tm = false → rpO v k = none → tm2 = true) ∧ ∀ u, tm = false → rpO v k = some u → tm2 = false ∧ st2 = u :: st
theorem t_bnRepeat {d : Nat} {h : Hp} {b n : Nat} {st : List RowVal} {tm : Bool} {v0 : RowVal} {Q : Nat → Option Value → Hp → Prop} (hb : bnS h b (v0 :: st) tm) (hn : 1 ≤ n ∧ n ≤ 6) (hq : ∀ h' st2 tm2, fr (bnA b) h h' → bnS h' b st2 tm2 → rpR v0 (n - 1) st tm st2 tm2 → Q 0 none h') : PR (d + 4) 11 [.ref b, .int (iI n)] h Q := by
  obtain ⟨hl0, R, V, b1, b2, b3, b4, b5⟩ := hb
  have hl : st.length < 24 := by
    have : (v0 :: st).length = st.length + 1 := rfl
    omega
  have b1 : bnC h b ((st.length + 1 : Nat) : Int) tm R := b1
  have F := bF b1
  show PW (d + 4) 11 0 [some (.ref b), some (.int (iI n)), none, none] [] h Q
  cases tm with
  | true =>
    refine vs_ok 3 ?_
    rw [show ((gRes 11).drop 0).take 3 = [.aload 0, .getfield 53, .ifCond .eq 4] from rfl]
    simp (disch := omega) only [vs_ifCond, vs_getfield, vs_aload0, vs_nil, gv_0, gv_1, gv_2, gv_3, pv_0, pv_1, va_rf_s, Nat.reduceDiv, Nat.reduceMod, Nat.reduceAdd, Nat.reduceMul, Int.reduceToNat, true_and, and_true, and_self, cP_eq, cP_ne, cP_lt, cP_ge, cP_gt, cP_le, eL_i, eL_l, eL_r, eL_n, Option.toList_none, Option.toList_some, List.nil_append, List.cons_append, kkI, llI, nnI, rrI, jjI, kkJ, llJ, nnJ, rrJ, iiJ, zIIs, zJJs, nEF, nET, and_false, false_and, jmin, jmax, catS_n, catS_i, catS_r, catS_l, Nat.reduceLeDiff, j1eq1, n21, jt0, jt1, Bool.false_eq_true, Classical.not_not, true_or, or_true, false_or, or_false, true_imp_iff, false_imp_iff, not_true_eq_false, not_false_eq_true, jif0, jif1, jifb, ltT, ltF, leT, leF, eqT, eqF, jlt, jle, jeq, jlt0, jle0, jeq0, jge0, jgt0, jinB, jnat, clt, cle, ceq, cgt, cge, lI_add, lI_sub, lI_mul, jadd, jsub, jmul, jneg, jtol, b010, b011, pv_2t, Int.toNat_natCast, Option.some.injEq, exists_eq_left', if_true, if_false, F, i1e0]
    refine vs_ok 1 ?_
    rw [show ((gRes 11).drop 3).take 1 = [.return_] from rfl]
    simp (disch := omega) only [vs_return_, vs_nil, gv_0, gv_1, gv_2, gv_3, pv_0, pv_1, va_rf_s, Nat.reduceDiv, Nat.reduceMod, Nat.reduceAdd, Nat.reduceMul, Int.reduceToNat, true_and, and_true, and_self, cP_eq, cP_ne, cP_lt, cP_ge, cP_gt, cP_le, eL_i, eL_l, eL_r, eL_n, Option.toList_none, Option.toList_some, List.nil_append, List.cons_append, kkI, llI, nnI, rrI, jjI, kkJ, llJ, nnJ, rrJ, iiJ, zIIs, zJJs, nEF, nET, and_false, false_and, jmin, jmax, catS_n, catS_i, catS_r, catS_l, Nat.reduceLeDiff, j1eq1, n21, jt0, jt1, Bool.false_eq_true, Classical.not_not, true_or, or_true, false_or, or_false, true_imp_iff, false_imp_iff, not_true_eq_false, not_false_eq_true, jif0, jif1, jifb, ltT, ltF, leT, leF, eqT, eqF, jlt, jle, jeq, jlt0, jle0, jeq0, jge0, jgt0, jinB, jnat, clt, cle, ceq, cgt, cge, lI_add, lI_sub, lI_mul, jadd, jsub, jmul, jneg, jtol, b010, b011, pv_2t, Int.toNat_natCast, Option.some.injEq, exists_eq_left', if_true, if_false, show gRc 11 = 0 from rfl]
    exact hq h (v0 :: st) true fr.rf ⟨hl0, R, V, b1, b2, b3, b4, fun z => (by simp at z)⟩ ⟨rfl, fun _ => rfl, fun z => (by simp at z), fun u z => (by simp at z)⟩
  | false =>
    obtain ⟨gv0, vp⟩ := b5 rfl 0 v0 rfl
    have vp : V st.length = v0 := by
      have : (v0 :: st).length - 1 - 0 = st.length := by show st.length + 1 - 1 - 0 = st.length; omega
      rw [this] at vp
      exact vp
    have z0 := (rB.b (Or.inl gv0))
    have g01 := gv0.1
    have lp : ∀ (k i : Nat) (g : Hp) (R : Nat → Nat) (V : Nat → RowVal) (u : RowVal) (o3 : Option Value), k + i = n → 1 ≤ i → rpO v0 (i - 1) = some u → fr (bnA b) h g → bnC g b ((st.length + 1 : Nat) : Int) false R → bnV g R V → bnZ g b → (∀ i, i < 26 → rB (V i)) → V 25 = u → V st.length = v0 → (∀ i v, st[i]? = some v → gV v ∧ V (st.length - 1 - i) = v) → PW (d + 4) 11 11 [some (.ref b), some (.int (iI n)), some (.int (iI i)), o3] [] g Q := by
      intro k
      induction k with
      | zero =>
        intro i g R V u o3 hk hi hu f c1 c2 c3 c4 vu vp vs
        have e : i = n := by omega
        subst e
        have F2 := bF c1
        have gu := rpO_g gv0 hu
        have g1 := gu.1
        have rp := c2 st.length (by omega)
        have r25 := c2 25 (by omega)
        rw [vu] at r25
        have ap := bn_at c1 (i := st.length) (by omega)
        refine vs_ok 3 ?_
        rw [show ((gRes 11).drop 11).take 3 = [.iload 2, .iload 1, .if_icmp .ge 39] from rfl]
        simp (disch := omega) only [vs_if_icmp, vs_iload1, vs_iload2, vs_nil, gv_0, gv_1, gv_2, gv_3, pv_0, pv_1, va_rf_s, Nat.reduceDiv, Nat.reduceMod, Nat.reduceAdd, Nat.reduceMul, Int.reduceToNat, true_and, and_true, and_self, cP_eq, cP_ne, cP_lt, cP_ge, cP_gt, cP_le, eL_i, eL_l, eL_r, eL_n, Option.toList_none, Option.toList_some, List.nil_append, List.cons_append, kkI, llI, nnI, rrI, jjI, kkJ, llJ, nnJ, rrJ, iiJ, zIIs, zJJs, nEF, nET, and_false, false_and, jmin, jmax, catS_n, catS_i, catS_r, catS_l, Nat.reduceLeDiff, j1eq1, n21, jt0, jt1, Bool.false_eq_true, Classical.not_not, true_or, or_true, false_or, or_false, true_imp_iff, false_imp_iff, not_true_eq_false, not_false_eq_true, jif0, jif1, jifb, ltT, ltF, leT, leF, eqT, eqF, jlt, jle, jeq, jlt0, jle0, jeq0, jge0, jgt0, jinB, jnat, clt, cle, ceq, cgt, cge, lI_add, lI_sub, lI_mul, jadd, jsub, jmul, jneg, jtol, b010, b011, pv_2t, Int.toNat_natCast, Option.some.injEq, exists_eq_left', if_true, if_false]
        refine vs_ok 1 ?_
        rw [show ((gRes 11).drop 39).take 1 = [.aload 0] from rfl]
        simp (disch := omega) only [vs_aload0, vs_nil, gv_0, gv_1, gv_2, gv_3, pv_0, pv_1, va_rf_s, Nat.reduceDiv, Nat.reduceMod, Nat.reduceAdd, Nat.reduceMul, Int.reduceToNat, true_and, and_true, and_self, cP_eq, cP_ne, cP_lt, cP_ge, cP_gt, cP_le, eL_i, eL_l, eL_r, eL_n, Option.toList_none, Option.toList_some, List.nil_append, List.cons_append, kkI, llI, nnI, rrI, jjI, kkJ, llJ, nnJ, rrJ, iiJ, zIIs, zJJs, nEF, nET, and_false, false_and, jmin, jmax, catS_n, catS_i, catS_r, catS_l, Nat.reduceLeDiff, j1eq1, n21, jt0, jt1, Bool.false_eq_true, Classical.not_not, true_or, or_true, false_or, or_false, true_imp_iff, false_imp_iff, not_true_eq_false, not_false_eq_true, jif0, jif1, jifb, ltT, ltF, leT, leF, eqT, eqF, jlt, jle, jeq, jlt0, jle0, jeq0, jge0, jgt0, jinB, jnat, clt, cle, ceq, cgt, cge, lI_add, lI_sub, lI_mul, jadd, jsub, jmul, jneg, jtol, b010, b011, pv_2t, Int.toNat_natCast, Option.some.injEq, exists_eq_left', if_true, if_false]
        refine PW.iv rfl rfl rfl F2.1.1 F2.1.2 (le_b rfl) (le_b rfl) ?_
        refine t_topN (p := st.length) c1 hl ⟨rfl, ⟨rfl, decide_eq_true (Or.inl rp.1.2.1)⟩, ?_⟩
        refine vs_ok 2 ?_
        rw [show ((gRes 11).drop 41).take 2 = [.aload 0, .getfield 22] from rfl]
        simp (disch := omega) only [vs_getfield, vs_aload0, vs_nil, gv_0, gv_1, gv_2, gv_3, pv_0, pv_1, va_rf_s, Nat.reduceDiv, Nat.reduceMod, Nat.reduceAdd, Nat.reduceMul, Int.reduceToNat, true_and, and_true, and_self, cP_eq, cP_ne, cP_lt, cP_ge, cP_gt, cP_le, eL_i, eL_l, eL_r, eL_n, Option.toList_none, Option.toList_some, List.nil_append, List.cons_append, kkI, llI, nnI, rrI, jjI, kkJ, llJ, nnJ, rrJ, iiJ, zIIs, zJJs, nEF, nET, and_false, false_and, jmin, jmax, catS_n, catS_i, catS_r, catS_l, Nat.reduceLeDiff, j1eq1, n21, jt0, jt1, Bool.false_eq_true, Classical.not_not, true_or, or_true, false_or, or_false, true_imp_iff, false_imp_iff, not_true_eq_false, not_false_eq_true, jif0, jif1, jifb, ltT, ltF, leT, leF, eqT, eqF, jlt, jle, jeq, jlt0, jle0, jeq0, jge0, jgt0, jinB, jnat, clt, cle, ceq, cgt, cge, lI_add, lI_sub, lI_mul, jadd, jsub, jmul, jneg, jtol, b010, b011, pv_2t, Int.toNat_natCast, Option.some.injEq, exists_eq_left', if_true, if_false, F2]
        refine PW.iv rfl rfl rfl rp.1.1 rp.1.2.1 (le_b rfl) (le_b rfl) ?_
        refine t_copy rp r25 (ap.2.2.2 25 (by omega) (by omega)) ⟨by omega, by omega⟩ fun g' f' v' => ⟨rfl, ⟨f'.2.2.1, rfl⟩, ?_⟩
        refine vs_ok 1 ?_
        rw [show ((gRes 11).drop 44).take 1 = [.return_] from rfl]
        simp (disch := omega) only [vs_return_, vs_nil, gv_0, gv_1, gv_2, gv_3, pv_0, pv_1, va_rf_s, Nat.reduceDiv, Nat.reduceMod, Nat.reduceAdd, Nat.reduceMul, Int.reduceToNat, true_and, and_true, and_self, cP_eq, cP_ne, cP_lt, cP_ge, cP_gt, cP_le, eL_i, eL_l, eL_r, eL_n, Option.toList_none, Option.toList_some, List.nil_append, List.cons_append, kkI, llI, nnI, rrI, jjI, kkJ, llJ, nnJ, rrJ, iiJ, zIIs, zJJs, nEF, nET, and_false, false_and, jmin, jmax, catS_n, catS_i, catS_r, catS_l, Nat.reduceLeDiff, j1eq1, n21, jt0, jt1, Bool.false_eq_true, Classical.not_not, true_or, or_true, false_or, or_false, true_imp_iff, false_imp_iff, not_true_eq_false, not_false_eq_true, jif0, jif1, jifb, ltT, ltF, leT, leF, eqT, eqF, jlt, jle, jeq, jlt0, jle0, jeq0, jge0, jgt0, jinB, jnat, clt, cle, ceq, cgt, cge, lI_add, lI_sub, lI_mul, jadd, jsub, jmul, jneg, jtol, b010, b011, pv_2t, Int.toNat_natCast, Option.some.injEq, exists_eq_left', if_true, if_false, show gRc 11 = 0 from rfl]
        obtain ⟨u0, u1, u2, u3, u4⟩ := bn_put c1 c2 c3 c4 (show st.length < 26 by omega) f' (v := u) v' gu
        refine hq g' (u :: st) false (f.tr u0) ⟨by show st.length + 1 ≤ 24; omega, R, _, u1, u2, u3, u4, fun _ j v hj => ?_⟩ ⟨rfl, fun z => (by simp at z), fun _ z => (by rw [hu] at z; cases z), fun u' _ z => ?_⟩
        · cases j with
          | zero =>
            have : u = v := by simpa using hj
            rw [← this]
            exact ⟨gu, if_pos (by show st.length + 1 - 1 - 0 = st.length; omega)⟩
          | succ j =>
            have hj' : st[j]? = some v := by simpa using hj
            have hjl := (List.getElem?_eq_some_iff.mp hj').1
            obtain ⟨w1, w2⟩ := vs j v hj'
            refine ⟨w1, ?_⟩
            show (if st.length + 1 - 1 - (j + 1) = st.length then u else V (st.length + 1 - 1 - (j + 1))) = v
            rw [if_neg (by omega), show st.length + 1 - 1 - (j + 1) = st.length - 1 - j by omega]
            exact w2
        · rw [hu] at z
          have : u = u' := by simpa using z
          rw [this]
          exact ⟨rfl, rfl⟩
      | succ k ih =>
        intro i g R V u o3 hk hi hu f c1 c2 c3 c4 vu vp vs
        have F2 := bF c1
        have gu := rpO_g gv0 hu
        have zu := (rB.b (Or.inl gu))
        have rp := c2 st.length (by omega)
        have r24 := c2 24 (by omega)
        have r25 := c2 25 (by omega)
        have rp' := rp
        rw [vp] at rp
        rw [vu] at r25
        have ap := bn_at c1 (i := 24) (by omega)
        have eR : rpO v0 (i - 1 + 1) = if okS 0 u v0 then some (adV 0 u v0) else none := by
          show (match rpO v0 (i - 1) with
            | some u => if okS 0 u v0 then some (adV 0 u v0) else none
            | none => none) = _
          rw [hu]
        rw [show i - 1 + 1 = i by omega] at eR
        refine vs_ok 3 ?_
        rw [show ((gRes 11).drop 11).take 3 = [.iload 2, .iload 1, .if_icmp .ge 39] from rfl]
        simp (disch := omega) only [vs_if_icmp, vs_iload1, vs_iload2, vs_nil, gv_0, gv_1, gv_2, gv_3, pv_0, pv_1, va_rf_s, Nat.reduceDiv, Nat.reduceMod, Nat.reduceAdd, Nat.reduceMul, Int.reduceToNat, true_and, and_true, and_self, cP_eq, cP_ne, cP_lt, cP_ge, cP_gt, cP_le, eL_i, eL_l, eL_r, eL_n, Option.toList_none, Option.toList_some, List.nil_append, List.cons_append, kkI, llI, nnI, rrI, jjI, kkJ, llJ, nnJ, rrJ, iiJ, zIIs, zJJs, nEF, nET, and_false, false_and, jmin, jmax, catS_n, catS_i, catS_r, catS_l, Nat.reduceLeDiff, j1eq1, n21, jt0, jt1, Bool.false_eq_true, Classical.not_not, true_or, or_true, false_or, or_false, true_imp_iff, false_imp_iff, not_true_eq_false, not_false_eq_true, jif0, jif1, jifb, ltT, ltF, leT, leF, eqT, eqF, jlt, jle, jeq, jlt0, jle0, jeq0, jge0, jgt0, jinB, jnat, clt, cle, ceq, cgt, cge, lI_add, lI_sub, lI_mul, jadd, jsub, jmul, jneg, jtol, b010, b011, pv_2t, Int.toNat_natCast, Option.some.injEq, exists_eq_left', if_true, if_false]
        refine vs_ok 5 ?_
        rw [show ((gRes 11).drop 14).take 5 = [.aload 0, .getfield 12, .aload 0, .getfield 22, .aload 0] from rfl]
        simp (disch := omega) only [vs_getfield, vs_aload0, vs_nil, gv_0, gv_1, gv_2, gv_3, pv_0, pv_1, va_rf_s, Nat.reduceDiv, Nat.reduceMod, Nat.reduceAdd, Nat.reduceMul, Int.reduceToNat, true_and, and_true, and_self, cP_eq, cP_ne, cP_lt, cP_ge, cP_gt, cP_le, eL_i, eL_l, eL_r, eL_n, Option.toList_none, Option.toList_some, List.nil_append, List.cons_append, kkI, llI, nnI, rrI, jjI, kkJ, llJ, nnJ, rrJ, iiJ, zIIs, zJJs, nEF, nET, and_false, false_and, jmin, jmax, catS_n, catS_i, catS_r, catS_l, Nat.reduceLeDiff, j1eq1, n21, jt0, jt1, Bool.false_eq_true, Classical.not_not, true_or, or_true, false_or, or_false, true_imp_iff, false_imp_iff, not_true_eq_false, not_false_eq_true, jif0, jif1, jifb, ltT, ltF, leT, leF, eqT, eqF, jlt, jle, jeq, jlt0, jle0, jeq0, jge0, jgt0, jinB, jnat, clt, cle, ceq, cgt, cge, lI_add, lI_sub, lI_mul, jadd, jsub, jmul, jneg, jtol, b010, b011, pv_2t, Int.toNat_natCast, Option.some.injEq, exists_eq_left', if_true, if_false, F2]
        refine PW.iv rfl rfl rfl F2.1.1 F2.1.2 (le_b rfl) (le_b rfl) ?_
        refine t_topN (p := st.length) c1 hl ⟨rfl, ⟨rfl, decide_eq_true (Or.inl rp'.1.2.1)⟩, ?_⟩
        refine vs_ok 1 ?_
        rw [show ((gRes 11).drop 20).take 1 = [.iconst 0] from rfl]
        simp (disch := omega) only [vs_iconst, vs_nil, gv_0, gv_1, gv_2, gv_3, pv_0, pv_1, va_rf_s, Nat.reduceDiv, Nat.reduceMod, Nat.reduceAdd, Nat.reduceMul, Int.reduceToNat, true_and, and_true, and_self, cP_eq, cP_ne, cP_lt, cP_ge, cP_gt, cP_le, eL_i, eL_l, eL_r, eL_n, Option.toList_none, Option.toList_some, List.nil_append, List.cons_append, kkI, llI, nnI, rrI, jjI, kkJ, llJ, nnJ, rrJ, iiJ, zIIs, zJJs, nEF, nET, and_false, false_and, jmin, jmax, catS_n, catS_i, catS_r, catS_l, Nat.reduceLeDiff, j1eq1, n21, jt0, jt1, Bool.false_eq_true, Classical.not_not, true_or, or_true, false_or, or_false, true_imp_iff, false_imp_iff, not_true_eq_false, not_false_eq_true, jif0, jif1, jifb, ltT, ltF, leT, leF, eqT, eqF, jlt, jle, jeq, jlt0, jle0, jeq0, jge0, jgt0, jinB, jnat, clt, cle, ceq, cgt, cge, lI_add, lI_sub, lI_mul, jadd, jsub, jmul, jneg, jtol, b010, b011, pv_2t, Int.toNat_natCast, Option.some.injEq, exists_eq_left', if_true, if_false]
        refine PW.iv rfl rfl rfl r24.1.1 r24.1.2.1 (le_b rfl) (le_b rfl) ?_
        refine t_takeSum (mi := Int32.ofInt 0) r24 r25 rp (ap.2.2.2 25 (by omega) (by omega)) (ap.2.2.2 st.length (by omega) (by omega)) (Or.inl rfl) zu.1 z0.1 zu.2.1 (fun c => ⟨rfl, ⟨rfl, rfl⟩, ?_⟩) fun c g5 f5 gr => ⟨rfl, ⟨f5.2.2.1, rfl⟩, ?_⟩
        · refine vs_ok 1 ?_
          rw [show ((gRes 11).drop 22).take 1 = [.ifCond .ne 27] from rfl]
          simp (disch := omega) only [vs_ifCond, vs_nil, gv_0, gv_1, gv_2, gv_3, pv_0, pv_1, va_rf_s, Nat.reduceDiv, Nat.reduceMod, Nat.reduceAdd, Nat.reduceMul, Int.reduceToNat, true_and, and_true, and_self, cP_eq, cP_ne, cP_lt, cP_ge, cP_gt, cP_le, eL_i, eL_l, eL_r, eL_n, Option.toList_none, Option.toList_some, List.nil_append, List.cons_append, kkI, llI, nnI, rrI, jjI, kkJ, llJ, nnJ, rrJ, iiJ, zIIs, zJJs, nEF, nET, and_false, false_and, jmin, jmax, catS_n, catS_i, catS_r, catS_l, Nat.reduceLeDiff, j1eq1, n21, jt0, jt1, Bool.false_eq_true, Classical.not_not, true_or, or_true, false_or, or_false, true_imp_iff, false_imp_iff, not_true_eq_false, not_false_eq_true, jif0, jif1, jifb, ltT, ltF, leT, leF, eqT, eqF, jlt, jle, jeq, jlt0, jle0, jeq0, jge0, jgt0, jinB, jnat, clt, cle, ceq, cgt, cge, lI_add, lI_sub, lI_mul, jadd, jsub, jmul, jneg, jtol, b010, b011, pv_2t, Int.toNat_natCast, Option.some.injEq, exists_eq_left', if_true, if_false]
          refine vs_ok 4 ?_
          rw [show ((gRes 11).drop 23).take 4 = [.aload 0, .iconst 1, .putfield 53, .return_] from rfl]
          simp (disch := omega) only [vs_iconst, vs_putfield, vs_return_, vs_aload0, vs_nil, gv_0, gv_1, gv_2, gv_3, pv_0, pv_1, va_rf_s, Nat.reduceDiv, Nat.reduceMod, Nat.reduceAdd, Nat.reduceMul, Int.reduceToNat, true_and, and_true, and_self, cP_eq, cP_ne, cP_lt, cP_ge, cP_gt, cP_le, eL_i, eL_l, eL_r, eL_n, Option.toList_none, Option.toList_some, List.nil_append, List.cons_append, kkI, llI, nnI, rrI, jjI, kkJ, llJ, nnJ, rrJ, iiJ, zIIs, zJJs, nEF, nET, and_false, false_and, jmin, jmax, catS_n, catS_i, catS_r, catS_l, Nat.reduceLeDiff, j1eq1, n21, jt0, jt1, Bool.false_eq_true, Classical.not_not, true_or, or_true, false_or, or_false, true_imp_iff, false_imp_iff, not_true_eq_false, not_false_eq_true, jif0, jif1, jifb, ltT, ltF, leT, leF, eqT, eqF, jlt, jle, jeq, jlt0, jle0, jeq0, jge0, jgt0, jinB, jnat, clt, cle, ceq, cgt, cge, lI_add, lI_sub, lI_mul, jadd, jsub, jmul, jneg, jtol, b010, b011, pv_2t, Int.toNat_natCast, Option.some.injEq, exists_eq_left', if_true, if_false, F2, pv_31, show gRc 11 = 0 from rfl]
          have c' : ¬ okS 0 u v0 := c
          rw [if_neg c'] at eR
          obtain ⟨f1, g1⟩ := c1.tm
          refine hq _ (v0 :: st) true (f.tr (f1.wk fun q z => by unfold bnA; omega)) ⟨hl0, R, V, g1, bnV.keep c1 c2 f1 (fun q z => by omega), c3.keep' f1 (fun q z => by omega), c4, fun z => (by simp at z)⟩ ⟨rfl, fun _ => rfl, fun _ _ => rfl, fun u' _ z => ?_⟩
          rw [rpO_none eR (by omega)] at z
          cases z
        · have c' : okS 0 u v0 := c
          rw [if_pos c'] at eR
          obtain ⟨u0, u1, u2, u3, u4⟩ := bn_put c1 c2 c3 c4 (show 24 < 26 by omega) f5 (v := adV 0 u v0) gr (gV_ad gu gv0 c')
          have F3 := bF u1
          have n24 := (u2 24 (by omega)).1.2.1
          have n25 := (u2 25 (by omega)).1.2.1
          have n25' : R 25 < zN (zsR g5 b 2 (some (R 24))) := n25
          obtain ⟨s0, s1, s2, s3, s4⟩ := u1.sw u2 u3 u4
          refine vs_ok 1 ?_
          rw [show ((gRes 11).drop 22).take 1 = [.ifCond .ne 27] from rfl]
          simp (disch := omega) only [vs_ifCond, vs_nil, gv_0, gv_1, gv_2, gv_3, pv_0, pv_1, va_rf_s, Nat.reduceDiv, Nat.reduceMod, Nat.reduceAdd, Nat.reduceMul, Int.reduceToNat, true_and, and_true, and_self, cP_eq, cP_ne, cP_lt, cP_ge, cP_gt, cP_le, eL_i, eL_l, eL_r, eL_n, Option.toList_none, Option.toList_some, List.nil_append, List.cons_append, kkI, llI, nnI, rrI, jjI, kkJ, llJ, nnJ, rrJ, iiJ, zIIs, zJJs, nEF, nET, and_false, false_and, jmin, jmax, catS_n, catS_i, catS_r, catS_l, Nat.reduceLeDiff, j1eq1, n21, jt0, jt1, Bool.false_eq_true, Classical.not_not, true_or, or_true, false_or, or_false, true_imp_iff, false_imp_iff, not_true_eq_false, not_false_eq_true, jif0, jif1, jifb, ltT, ltF, leT, leF, eqT, eqF, jlt, jle, jeq, jlt0, jle0, jeq0, jge0, jgt0, jinB, jnat, clt, cle, ceq, cgt, cge, lI_add, lI_sub, lI_mul, jadd, jsub, jmul, jneg, jtol, b010, b011, pv_2t, Int.toNat_natCast, Option.some.injEq, exists_eq_left', if_true, if_false, i1e0]
          refine vs_ok 12 ?_
          rw [show ((gRes 11).drop 27).take 12 = [.aload 0, .getfield 22, .astore 3, .aload 0, .aload 0, .getfield 12, .putfield 22, .aload 0, .aload 3, .putfield 12, .iinc 2 1, .goto 11] from rfl]
          simp (disch := omega) only [vs_goto, vs_getfield, vs_putfield, vs_aload0, vs_iinc2n, vs_iinc2i, vs_iinc2r, vs_iinc2l, vs_aload3, vs_astore3n, vs_astore3i, vs_astore3r, vs_astore3l, vs_nil, gv_0, gv_1, gv_2, gv_3, pv_0, pv_1, va_rf_s, Nat.reduceDiv, Nat.reduceMod, Nat.reduceAdd, Nat.reduceMul, Int.reduceToNat, true_and, and_true, and_self, cP_eq, cP_ne, cP_lt, cP_ge, cP_gt, cP_le, eL_i, eL_l, eL_r, eL_n, Option.toList_none, Option.toList_some, List.nil_append, List.cons_append, kkI, llI, nnI, rrI, jjI, kkJ, llJ, nnJ, rrJ, iiJ, zIIs, zJJs, nEF, nET, and_false, false_and, jmin, jmax, catS_n, catS_i, catS_r, catS_l, Nat.reduceLeDiff, j1eq1, n21, jt0, jt1, Bool.false_eq_true, Classical.not_not, true_or, or_true, false_or, or_false, true_imp_iff, false_imp_iff, not_true_eq_false, not_false_eq_true, jif0, jif1, jifb, ltT, ltF, leT, leF, eqT, eqF, jlt, jle, jeq, jlt0, jle0, jeq0, jge0, jgt0, jinB, jnat, clt, cle, ceq, cgt, cge, lI_add, lI_sub, lI_mul, jadd, jsub, jmul, jneg, jtol, b010, b011, pv_2t, Int.toNat_natCast, Option.some.injEq, exists_eq_left', if_true, if_false, F3, kkR, nnR, llR, iiR, zR_sR]
          refine ih (i + 1) _ _ _ (adV 0 u v0) _ (by omega) (by omega) (by rw [show i + 1 - 1 = i by omega]; exact eR) (f.tr (u0.tr (s0.wk fun q z => by unfold bnA; omega))) s1 s2 s3 s4 ?_ ?_ fun j v hj => ?_
          · show (if sw4 25 = 24 then adV 0 u v0 else V (sw4 25)) = _
            exact if_pos rfl
          · show (if sw4 st.length = 24 then adV 0 u v0 else V (sw4 st.length)) = _
            have : sw4 st.length = st.length := by unfold sw4; rw [if_neg (by omega), if_neg (by omega)]
            rw [this, if_neg (by omega)]
            exact vp
          · have hjl := (List.getElem?_eq_some_iff.mp hj).1
            obtain ⟨w1, w2⟩ := vs j v hj
            refine ⟨w1, ?_⟩
            show (if sw4 (st.length - 1 - j) = 24 then adV 0 u v0 else V (sw4 (st.length - 1 - j))) = _
            have : sw4 (st.length - 1 - j) = st.length - 1 - j := by unfold sw4; rw [if_neg (by omega), if_neg (by omega)]
            rw [this, if_neg (by omega)]
            exact w2
    have rp := b2 st.length (by omega)
    have r25 := b2 25 (by omega)
    have rp' := rp
    rw [vp] at rp
    have ap := bn_at b1 (i := 25) (by omega)
    refine vs_ok 3 ?_
    rw [show ((gRes 11).drop 0).take 3 = [.aload 0, .getfield 53, .ifCond .eq 4] from rfl]
    simp (disch := omega) only [vs_ifCond, vs_getfield, vs_aload0, vs_nil, gv_0, gv_1, gv_2, gv_3, pv_0, pv_1, va_rf_s, Nat.reduceDiv, Nat.reduceMod, Nat.reduceAdd, Nat.reduceMul, Int.reduceToNat, true_and, and_true, and_self, cP_eq, cP_ne, cP_lt, cP_ge, cP_gt, cP_le, eL_i, eL_l, eL_r, eL_n, Option.toList_none, Option.toList_some, List.nil_append, List.cons_append, kkI, llI, nnI, rrI, jjI, kkJ, llJ, nnJ, rrJ, iiJ, zIIs, zJJs, nEF, nET, and_false, false_and, jmin, jmax, catS_n, catS_i, catS_r, catS_l, Nat.reduceLeDiff, j1eq1, n21, jt0, jt1, Bool.false_eq_true, Classical.not_not, true_or, or_true, false_or, or_false, true_imp_iff, false_imp_iff, not_true_eq_false, not_false_eq_true, jif0, jif1, jifb, ltT, ltF, leT, leF, eqT, eqF, jlt, jle, jeq, jlt0, jle0, jeq0, jge0, jgt0, jinB, jnat, clt, cle, ceq, cgt, cge, lI_add, lI_sub, lI_mul, jadd, jsub, jmul, jneg, jtol, b010, b011, pv_2t, Int.toNat_natCast, Option.some.injEq, exists_eq_left', if_true, if_false, F, i1e0]
    refine vs_ok 3 ?_
    rw [show ((gRes 11).drop 4).take 3 = [.aload 0, .getfield 22, .aload 0] from rfl]
    simp (disch := omega) only [vs_getfield, vs_aload0, vs_nil, gv_0, gv_1, gv_2, gv_3, pv_0, pv_1, va_rf_s, Nat.reduceDiv, Nat.reduceMod, Nat.reduceAdd, Nat.reduceMul, Int.reduceToNat, true_and, and_true, and_self, cP_eq, cP_ne, cP_lt, cP_ge, cP_gt, cP_le, eL_i, eL_l, eL_r, eL_n, Option.toList_none, Option.toList_some, List.nil_append, List.cons_append, kkI, llI, nnI, rrI, jjI, kkJ, llJ, nnJ, rrJ, iiJ, zIIs, zJJs, nEF, nET, and_false, false_and, jmin, jmax, catS_n, catS_i, catS_r, catS_l, Nat.reduceLeDiff, j1eq1, n21, jt0, jt1, Bool.false_eq_true, Classical.not_not, true_or, or_true, false_or, or_false, true_imp_iff, false_imp_iff, not_true_eq_false, not_false_eq_true, jif0, jif1, jifb, ltT, ltF, leT, leF, eqT, eqF, jlt, jle, jeq, jlt0, jle0, jeq0, jge0, jgt0, jinB, jnat, clt, cle, ceq, cgt, cge, lI_add, lI_sub, lI_mul, jadd, jsub, jmul, jneg, jtol, b010, b011, pv_2t, Int.toNat_natCast, Option.some.injEq, exists_eq_left', if_true, if_false, F]
    refine PW.iv rfl rfl rfl F.1.1 F.1.2 (le_b rfl) (le_b rfl) ?_
    refine t_topN (p := st.length) b1 hl ⟨rfl, ⟨rfl, decide_eq_true (Or.inl rp'.1.2.1)⟩, ?_⟩
    refine PW.iv rfl rfl rfl r25.1.1 r25.1.2.1 (le_b rfl) (le_b rfl) ?_
    refine t_copy r25 rp (ap.2.2.2 st.length (by omega) (by omega)) ⟨by omega, by omega⟩ fun g f v' => ⟨rfl, ⟨f.2.2.1, rfl⟩, ?_⟩
    refine vs_ok 2 ?_
    rw [show ((gRes 11).drop 9).take 2 = [.iconst 1, .istore 2] from rfl]
    simp (disch := omega) only [vs_iconst, vs_istore2n, vs_istore2i, vs_istore2r, vs_istore2l, vs_nil, gv_0, gv_1, gv_2, gv_3, pv_0, pv_1, va_rf_s, Nat.reduceDiv, Nat.reduceMod, Nat.reduceAdd, Nat.reduceMul, Int.reduceToNat, true_and, and_true, and_self, cP_eq, cP_ne, cP_lt, cP_ge, cP_gt, cP_le, eL_i, eL_l, eL_r, eL_n, Option.toList_none, Option.toList_some, List.nil_append, List.cons_append, kkI, llI, nnI, rrI, jjI, kkJ, llJ, nnJ, rrJ, iiJ, zIIs, zJJs, nEF, nET, and_false, false_and, jmin, jmax, catS_n, catS_i, catS_r, catS_l, Nat.reduceLeDiff, j1eq1, n21, jt0, jt1, Bool.false_eq_true, Classical.not_not, true_or, or_true, false_or, or_false, true_imp_iff, false_imp_iff, not_true_eq_false, not_false_eq_true, jif0, jif1, jifb, ltT, ltF, leT, leF, eqT, eqF, jlt, jle, jeq, jlt0, jle0, jeq0, jge0, jgt0, jinB, jnat, clt, cle, ceq, cgt, cge, lI_add, lI_sub, lI_mul, jadd, jsub, jmul, jneg, jtol, b010, b011, pv_2t, Int.toNat_natCast, Option.some.injEq, exists_eq_left', if_true, if_false]
    obtain ⟨u0, u1, u2, u3, u4⟩ := bn_put b1 b2 b3 b4 (show 25 < 26 by omega) f (v := v0) v' gv0
    refine lp (n - 1) 1 g R _ v0 _ (by omega) (by omega) rfl u0 u1 u2 u3 u4 (if_pos rfl) ?_ fun j v hj => ?_
    · show (if st.length = 25 then v0 else V st.length) = v0
      rw [if_neg (by omega)]
      exact vp
    · have hjl := (List.getElem?_eq_some_iff.mp hj).1
      obtain ⟨w1, w2⟩ := b5 rfl (j + 1) v (by simpa using hj)
      refine ⟨w1, ?_⟩
      show (if st.length - 1 - j = 25 then v0 else V (st.length - 1 - j)) = v
      rw [if_neg (by omega), ← w2]
      congr 1
      show _ = st.length + 1 - 1 - (j + 1)
      omega
