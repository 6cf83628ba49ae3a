/-! Bench as a stack of values -/
theorem i1e0 : ((1 : Int32) = 0) = False := eq_false (by decide)
/-- Bench at b: the values st (the top first), or TOO MUCH -/
def bnS (h : Hp) (b : Nat) (st : List RowVal) (tm : Bool) : Prop := st.length ≤ 24 ∧ ∃ (R : Nat → Nat) (V : Nat → RowVal), bnC h b st.length tm R ∧ bnV h R V ∧ bnZ h b ∧ (∀ i, i < 26 → rB (V i)) ∧ (tm = false → ∀ i v, st[i]? = some v → gV v ∧ V (st.length - 1 - i) = v)
abbrev bnA (b : Nat) : Nat → Prop := fun q => b ≤ q ∧ q < b + 56
theorem bn_at {h : Hp} {b : Nat} {ht : Int} {tm : Bool} {R : Nat → Nat} (hb : bnC h b ht tm R) {i : Nat} (hi : i < 26) : b + 2 ≤ R i ∧ R i + 1 < b + 56 ∧ apt (R i) (b + 6) ∧ ∀ j, j < 26 → j ≠ i → apt (R i) (R j) := by
  have o := hb.2.2.2.2.2.2.2.2.2.2.2.2.1
  have inj := hb.2.2.2.2.2.2.2.2.2.2.2.2.2
  have oi := o i hi
  refine ⟨?_, ?_, ?_, fun j hj hne => ?_⟩
  · unfold bnO at oi; omega
  · unfold bnO at oi; omega
  · unfold bnO at oi; unfold apt; omega
  · have oj := o j hj
    have : R j ≠ R i := fun z => hne (inj j i hj hi z)
    unfold bnO at oi oj
    unfold apt
    omega
theorem bnV.keep {S : Nat → Prop} {h g : Hp} {b : Nat} {ht : Int} {tm : Bool} {R : Nat → Nat} {V : Nat → RowVal} (hb : bnC h b ht tm R) (hv : bnV h R V) (hf : fr S h g) (hs : ∀ q, S q → ¬ (b + 2 ≤ q ∧ q < b + 56)) : bnV g R V := fun i hi => by
  have := bn_at hb hi
  exact (hv i hi).keep hf (fun z => hs _ z (by omega)) (fun z => hs _ z (by omega))
theorem bnZ.keep' {S : Nat → Prop} {h g : Hp} {b : Nat} (hz : bnZ h b) (hf : fr S h g) (hs : ∀ q, S q → ¬ (b + 2 ≤ q ∧ q < b + 56)) : bnZ g b := rowV.keep hz hf (fun z => hs _ z (by omega)) (fun z => hs _ z (by omega))
theorem bnS.keep {S : Nat → Prop} {h g : Hp} {b : Nat} {st : List RowVal} {tm : Bool} (hb : bnS h b st tm) (hf : fr S h g) (hs : ∀ q, S q → ¬ bnA b q) : bnS g b st tm := by
  obtain ⟨hl, R, V, b1, b2, b3, b4, b5⟩ := hb
  have hs2 : ∀ q, S q → ¬ (b + 2 ≤ q ∧ q < b + 56) := fun q z => by
    have := hs q z
    unfold bnA at this
    omega
  refine ⟨hl, R, V, ?_, bnV.keep b1 b2 hf hs2, b3.keep' hf hs2, b4, b5⟩
  obtain ⟨a1, a2, a3, a4, a5, a6, a7, a8, a9, aa, ab, ac, ad, ae⟩ := b1
  have n0 : ¬ S b := fun z => hs b z ⟨Nat.le_refl _, by omega⟩
  have n1 : ¬ S (b + 1) := fun z => hs _ z ⟨by omega, by omega⟩
  have e0 := hf.2.2.2.2.2.1 b n0
  have r0 := hf.2.2.2.2.2.2.2 b n0
  have r1 := hf.2.2.2.2.2.2.2 (b + 1) n1
  exact ⟨by rw [hf.1, a1], by rw [hf.2.2.1]; exact a2, by rw [e0, a3], by rw [e0, a4], a5, by rw [r0, a6], by rw [hf.1, a7], by rw [hf.2.1, a8], fun i hi => by rw [r1, a9 i hi], by rw [r0, aa], by rw [r0, ab], by rw [r0, ac], ad, ae⟩
theorem t_bnStart {d : Nat} {h : Hp} {b : Nat} {st : List RowVal} {tm : Bool} {Q : Nat → Option Value → Hp → Prop} (hb : bnS h b st tm) (hq : ∀ h', fr (bnA b) h h' → bnS h' b [] false → Q 0 none h') : PR d 1 [.ref b] h Q := by
  obtain ⟨hl, R, V, b1, b2, b3, b4, b5⟩ := hb
  refine t_bstart b1 fun g f g1 => hq g (f.wk fun q z => by unfold bnA; omega) ⟨by decide, R, V, g1, bnV.keep b1 b2 f (fun q z => by omega), b3.keep' f (fun q z => by omega), b4, fun _ i v hv => by simp at hv⟩
theorem bF {h : Hp} {b : Nat} {ht : Int} {tm : Bool} {R : Nat → Nat} (hb : bnC h b ht tm R) : (zK h b = 0 ∧ b < zN h) ∧ (zI h b 4 = iI ht ∧ zI h b 5 = (if tm then 1 else 0)) ∧ (zR h b 0 = some (b + 1) ∧ zK h (b + 1) = 17 ∧ b + 1 < zN h ∧ zL h (b + 1) = 24) ∧ zR h b 1 = some (R 24) ∧ zR h b 2 = some (R 25) ∧ zR h b 3 = some (b + 6) := by
  obtain ⟨a1, a2, a3, a4, a5, a6, a7, a8, a9, aa, ab, ac, ad, ae⟩ := hb
  exact ⟨⟨a1, by omega⟩, ⟨a3, a4⟩, ⟨a6, a7, by omega, a8⟩, aa, ab, ac⟩
theorem bR {h : Hp} {b : Nat} {ht : Int} {tm : Bool} {R : Nat → Nat} (hb : bnC h b ht tm R) {i : Nat} (hi : i < 24) : zR h (b + 1) i = some (R i) := hb.2.2.2.2.2.2.2.2.1 i hi
theorem t_topN {d : Nat} {h : Hp} {b p : Nat} {tm : Bool} {R : Nat → Nat} {Q : Nat → Option Value → Hp → Prop} (hb : bnC h b ((p + 1 : Nat) : Int) tm R) (hp : p < 24) (hq : Q 0 (some (.ref (R p))) h) : PR (d + 1) 3 [.ref b] h Q := by
  refine t_topRow hb ?_
  have : (slF ((p + 1 : Nat) : Int) 0).toNat = p := by
    unfold slF
    rw [if_pos ⟨by omega, by omega⟩]
    omega
  rw [this]
  exact hq
theorem t_slotN {d : Nat} {h : Hp} {b p k : Nat} {ht : Int} {tm : Bool} {R : Nat → Nat} {Q : Nat → Option Value → Hp → Prop} (hb : bnC h b ht tm R) (hp : ht = ((p + k + 1 : Nat) : Int)) (hp24 : p + k < 24) (hq : Q 0 (some (.int (iI p))) h) : PR d 2 [.ref b, .int (iI k)] h Q := by
  refine t_slot hb ⟨by omega, by omega⟩ ?_
  have : slF ht k = p := by
    unfold slF
    rw [if_pos ⟨by omega, by omega⟩]
    omega
  rw [this]
  exact hq
/-- one row of the stack has been written -/
theorem bn_put {h g : Hp} {b p : Nat} {ht : Int} {tm : Bool} {R : Nat → Nat} {V : Nat → RowVal} {v : RowVal} (hb : bnC h b ht tm R) (hv : bnV h R V) (hz : bnZ h b) (hB : ∀ i, i < 26 → rB (V i)) (hp : p < 26) (hf : fr (rS (R p)) h g) (hr : rowP g (R p) 200 v) (hg : gV v) : fr (bnA b) h g ∧ bnC g b ht tm R ∧ bnV g R (fun i => if i = p then v else V i) ∧ bnZ g b ∧ ∀ i, i < 26 → rB ((fun i => if i = p then v else V i) i) := by
  obtain ⟨u1, u2, u3⟩ := bn_upd hb hv hz hp hf hr
  have ra := bn_at hb hp
  refine ⟨hf.wk fun q z => by unfold bnA; rcases z with z | z <;> omega, u1, u2, u3, fun i hi => ?_⟩
  show rB (if i = p then v else V i)
  split
  · exact Or.inl hg
  · exact hB i hi
theorem t_bnLayNumber {d : Nat} {h : Hp} {b : Nat} {st : List RowVal} {tm : Bool} {n : Int} {Q : Nat → Option Value → Hp → Prop} (hb : bnS h b st tm) (hl : st.length < 24) (hn : -200 ≤ n ∧ n ≤ 200) (hq : ∀ h', fr (bnA b) h h' → bnS h' b (nuV n :: st) tm → Q 0 none h') : PR (d + 3) 5 [.ref b, .int (iI n)] h Q := by
  obtain ⟨hl0, R, V, b1, b2, b3, b4, b5⟩ := hb
  have F := bF b1
  show PW (d + 3) 5 0 [some (.ref b), some (.int (iI n))] [] h Q
  refine vs_ok 1 ?_
  rw [show ((gRes 5).drop 0).take 1 = [.aload 0] from rfl]
  simp (disch := omega) only [vs_aload0, vs_nil, gv_0, gv_1, gv_2, gv_3, pv_0, pv_1, va_rf_s, Nat.reduceDiv, Nat.reduceMod, Nat.reduceAdd, Nat.reduceMul, Int.reduceToNat, true_and, and_true, and_self, cP_eq, cP_ne, cP_lt, cP_ge, cP_gt, cP_le, eL_i, eL_l, eL_r, eL_n, Option.toList_none, Option.toList_some, List.nil_append, List.cons_append, kkI, llI, nnI, rrI, jjI, kkJ, llJ, nnJ, rrJ, iiJ, zIIs, zJJs, nEF, nET, and_false, false_and, jmin, jmax, catS_n, catS_i, catS_r, catS_l, Nat.reduceLeDiff, j1eq1, n21, jt0, jt1, Bool.false_eq_true, Classical.not_not, true_or, or_true, false_or, or_false, true_imp_iff, false_imp_iff, not_true_eq_false, not_false_eq_true, jif0, jif1, jifb, ltT, ltF, leT, leF, eqT, eqF, jlt, jle, jeq, jlt0, jle0, jeq0, jge0, jgt0, jinB, jnat, clt, cle, ceq, cgt, cge, lI_add, lI_sub, lI_mul, jadd, jsub, jmul, jneg, jtol, b010, b011, pv_2t, Int.toNat_natCast, Option.some.injEq, exists_eq_left', if_true, if_false]
  refine PW.iv rfl rfl rfl F.1.1 F.1.2 (le_b rfl) (le_b rfl) ?_
  refine t_grow b1 (fun c g f hg => ⟨rfl, ⟨f.2.2.1, rfl⟩, ?_⟩) (fun c g f hg => absurd (show (st.length : Int) < 24 by omega) c)
  have fA : fr (bnA b) h g := f.wk fun q z => by unfold bnA; omega
  have gv : bnV g R V := bnV.keep b1 b2 f (fun q z => by omega)
  have gz : bnZ g b := b3.keep' f (fun q z => by omega)
  cases tm with
  | true =>
    refine vs_ok 1 ?_
    rw [show ((gRes 5).drop 2).take 1 = [.ifCond .eq 7] from rfl]
    simp (disch := omega) only [vs_ifCond, vs_nil, gv_0, gv_1, gv_2, gv_3, pv_0, pv_1, va_rf_s, Nat.reduceDiv, Nat.reduceMod, Nat.reduceAdd, Nat.reduceMul, Int.reduceToNat, true_and, and_true, and_self, cP_eq, cP_ne, cP_lt, cP_ge, cP_gt, cP_le, eL_i, eL_l, eL_r, eL_n, Option.toList_none, Option.toList_some, List.nil_append, List.cons_append, kkI, llI, nnI, rrI, jjI, kkJ, llJ, nnJ, rrJ, iiJ, zIIs, zJJs, nEF, nET, and_false, false_and, jmin, jmax, catS_n, catS_i, catS_r, catS_l, Nat.reduceLeDiff, j1eq1, n21, jt0, jt1, Bool.false_eq_true, Classical.not_not, true_or, or_true, false_or, or_false, true_imp_iff, false_imp_iff, not_true_eq_false, not_false_eq_true, jif0, jif1, jifb, ltT, ltF, leT, leF, eqT, eqF, jlt, jle, jeq, jlt0, jle0, jeq0, jge0, jgt0, jinB, jnat, clt, cle, ceq, cgt, cge, lI_add, lI_sub, lI_mul, jadd, jsub, jmul, jneg, jtol, b010, b011, pv_2t, Int.toNat_natCast, Option.some.injEq, exists_eq_left', if_true, if_false, i1e0]
    refine vs_ok 1 ?_
    rw [show ((gRes 5).drop 7).take 1 = [.return_] from rfl]
    simp (disch := omega) only [vs_return_, vs_nil, gv_0, gv_1, gv_2, gv_3, pv_0, pv_1, va_rf_s, Nat.reduceDiv, Nat.reduceMod, Nat.reduceAdd, Nat.reduceMul, Int.reduceToNat, true_and, and_true, and_self, cP_eq, cP_ne, cP_lt, cP_ge, cP_gt, cP_le, eL_i, eL_l, eL_r, eL_n, Option.toList_none, Option.toList_some, List.nil_append, List.cons_append, kkI, llI, nnI, rrI, jjI, kkJ, llJ, nnJ, rrJ, iiJ, zIIs, zJJs, nEF, nET, and_false, false_and, jmin, jmax, catS_n, catS_i, catS_r, catS_l, Nat.reduceLeDiff, j1eq1, n21, jt0, jt1, Bool.false_eq_true, Classical.not_not, true_or, or_true, false_or, or_false, true_imp_iff, false_imp_iff, not_true_eq_false, not_false_eq_true, jif0, jif1, jifb, ltT, ltF, leT, leF, eqT, eqF, jlt, jle, jeq, jlt0, jle0, jeq0, jge0, jgt0, jinB, jnat, clt, cle, ceq, cgt, cge, lI_add, lI_sub, lI_mul, jadd, jsub, jmul, jneg, jtol, b010, b011, pv_2t, Int.toNat_natCast, Option.some.injEq, exists_eq_left', if_true, if_false, show gRc 5 = 0 from rfl]
    exact hq g fA ⟨hl, R, V, hg, gv, gz, b4, fun z => (by simp at z)⟩
  | false =>
    refine vs_ok 1 ?_
    rw [show ((gRes 5).drop 2).take 1 = [.ifCond .eq 7] from rfl]
    simp (disch := omega) only [vs_ifCond, vs_nil, gv_0, gv_1, gv_2, gv_3, pv_0, pv_1, va_rf_s, Nat.reduceDiv, Nat.reduceMod, Nat.reduceAdd, Nat.reduceMul, Int.reduceToNat, true_and, and_true, and_self, cP_eq, cP_ne, cP_lt, cP_ge, cP_gt, cP_le, eL_i, eL_l, eL_r, eL_n, Option.toList_none, Option.toList_some, List.nil_append, List.cons_append, kkI, llI, nnI, rrI, jjI, kkJ, llJ, nnJ, rrJ, iiJ, zIIs, zJJs, nEF, nET, and_false, false_and, jmin, jmax, catS_n, catS_i, catS_r, catS_l, Nat.reduceLeDiff, j1eq1, n21, jt0, jt1, Bool.false_eq_true, Classical.not_not, true_or, or_true, false_or, or_false, true_imp_iff, false_imp_iff, not_true_eq_false, not_false_eq_true, jif0, jif1, jifb, ltT, ltF, leT, leF, eqT, eqF, jlt, jle, jeq, jlt0, jle0, jeq0, jge0, jgt0, jinB, jnat, clt, cle, ceq, cgt, cge, lI_add, lI_sub, lI_mul, jadd, jsub, jmul, jneg, jtol, b010, b011, pv_2t, Int.toNat_natCast, Option.some.injEq, exists_eq_left', if_true, if_false, i1e0]
    refine vs_ok 1 ?_
    rw [show ((gRes 5).drop 3).take 1 = [.aload 0] from rfl]
    simp (disch := omega) only [vs_aload0, vs_nil, gv_0, gv_1, gv_2, gv_3, pv_0, pv_1, va_rf_s, Nat.reduceDiv, Nat.reduceMod, Nat.reduceAdd, Nat.reduceMul, Int.reduceToNat, true_and, and_true, and_self, cP_eq, cP_ne, cP_lt, cP_ge, cP_gt, cP_le, eL_i, eL_l, eL_r, eL_n, Option.toList_none, Option.toList_some, List.nil_append, List.cons_append, kkI, llI, nnI, rrI, jjI, kkJ, llJ, nnJ, rrJ, iiJ, zIIs, zJJs, nEF, nET, and_false, false_and, jmin, jmax, catS_n, catS_i, catS_r, catS_l, Nat.reduceLeDiff, j1eq1, n21, jt0, jt1, Bool.false_eq_true, Classical.not_not, true_or, or_true, false_or, or_false, true_imp_iff, false_imp_iff, not_true_eq_false, not_false_eq_true, jif0, jif1, jifb, ltT, ltF, leT, leF, eqT, eqF, jlt, jle, jeq, jlt0, jle0, jeq0, jge0, jgt0, jinB, jnat, clt, cle, ceq, cgt, cge, lI_add, lI_sub, lI_mul, jadd, jsub, jmul, jneg, jtol, b010, b011, pv_2t, Int.toNat_natCast, Option.some.injEq, exists_eq_left', if_true, if_false]
    have F2 := bF hg
    have ra := bn_at hg (i := st.length) (by omega)
    have ro := gv st.length (by omega)
    refine PW.iv rfl rfl rfl F2.1.1 F2.1.2 (le_b rfl) (le_b rfl) ?_
    refine t_topN (p := st.length) hg hl ⟨rfl, ⟨rfl, decide_eq_true (Or.inl ro.1.2.1)⟩, ?_⟩
    refine vs_ok 1 ?_
    rw [show ((gRes 5).drop 5).take 1 = [.iload 1] from rfl]
    simp (disch := omega) only [vs_iload1, vs_nil, gv_0, gv_1, gv_2, gv_3, pv_0, pv_1, va_rf_s, Nat.reduceDiv, Nat.reduceMod, Nat.reduceAdd, Nat.reduceMul, Int.reduceToNat, true_and, and_true, and_self, cP_eq, cP_ne, cP_lt, cP_ge, cP_gt, cP_le, eL_i, eL_l, eL_r, eL_n, Option.toList_none, Option.toList_some, List.nil_append, List.cons_append, kkI, llI, nnI, rrI, jjI, kkJ, llJ, nnJ, rrJ, iiJ, zIIs, zJJs, nEF, nET, and_false, false_and, jmin, jmax, catS_n, catS_i, catS_r, catS_l, Nat.reduceLeDiff, j1eq1, n21, jt0, jt1, Bool.false_eq_true, Classical.not_not, true_or, or_true, false_or, or_false, true_imp_iff, false_imp_iff, not_true_eq_false, not_false_eq_true, jif0, jif1, jifb, ltT, ltF, leT, leF, eqT, eqF, jlt, jle, jeq, jlt0, jle0, jeq0, jge0, jgt0, jinB, jnat, clt, cle, ceq, cgt, cge, lI_add, lI_sub, lI_mul, jadd, jsub, jmul, jneg, jtol, b010, b011, pv_2t, Int.toNat_natCast, Option.some.injEq, exists_eq_left', if_true, if_false]
    refine PW.iv rfl rfl rfl ro.1.1 ro.1.2.1 (le_b rfl) (le_b rfl) ?_
    refine t_takeNumber ro ⟨by omega, by omega⟩ fun g' f' v' => ⟨rfl, ⟨f'.2.2.1, rfl⟩, ?_⟩
    refine vs_ok 1 ?_
    rw [show ((gRes 5).drop 7).take 1 = [.return_] from rfl]
    simp (disch := omega) only [vs_return_, vs_nil, gv_0, gv_1, gv_2, gv_3, pv_0, pv_1, va_rf_s, Nat.reduceDiv, Nat.reduceMod, Nat.reduceAdd, Nat.reduceMul, Int.reduceToNat, true_and, and_true, and_self, cP_eq, cP_ne, cP_lt, cP_ge, cP_gt, cP_le, eL_i, eL_l, eL_r, eL_n, Option.toList_none, Option.toList_some, List.nil_append, List.cons_append, kkI, llI, nnI, rrI, jjI, kkJ, llJ, nnJ, rrJ, iiJ, zIIs, zJJs, nEF, nET, and_false, false_and, jmin, jmax, catS_n, catS_i, catS_r, catS_l, Nat.reduceLeDiff, j1eq1, n21, jt0, jt1, Bool.false_eq_true, Classical.not_not, true_or, or_true, false_or, or_false, true_imp_iff, false_imp_iff, not_true_eq_false, not_false_eq_true, jif0, jif1, jifb, ltT, ltF, leT, leF, eqT, eqF, jlt, jle, jeq, jlt0, jle0, jeq0, jge0, jgt0, jinB, jnat, clt, cle, ceq, cgt, cge, lI_add, lI_sub, lI_mul, jadd, jsub, jmul, jneg, jtol, b010, b011, pv_2t, Int.toNat_natCast, Option.some.injEq, exists_eq_left', if_true, if_false, show gRc 5 = 0 from rfl]
    obtain ⟨u0, u1, u2, u3, u4⟩ := bn_put hg gv gz b4 (show st.length < 26 by omega) f' (v := nuV n) v' (gV_nu hn)
    refine hq g' (fA.tr u0) ⟨hl, R, _, u1, u2, u3, u4, fun _ i v hi => ?_⟩
    cases i with
    | zero =>
      have : nuV n = v := by simpa using hi
      rw [← this]
      exact ⟨gV_nu hn, if_pos (by show st.length + 1 - 1 - 0 = st.length; omega)⟩
    | succ i =>
      have hi' : st[i]? = some v := by simpa using hi
      have hil := (List.getElem?_eq_some_iff.mp hi').1
      obtain ⟨c1, c2⟩ := b5 rfl i v hi'
      refine ⟨c1, ?_⟩
      show (if st.length + 1 - 1 - (i + 1) = st.length then nuV n else V (st.length + 1 - 1 - (i + 1))) = v
      rw [if_neg (by omega), show st.length + 1 - 1 - (i + 1) = st.length - 1 - i by omega]
      exact c2
theorem t_bnLayRow {d : Nat} {h : Hp} {b o : Nat} {st : List RowVal} {tm : Bool} {v0 : RowVal} {Q : Nat → Option Value → Hp → Prop} (hb : bnS h b st tm) (hl : st.length < 24) (ho : rowP h o 200 v0) (hg0 : gV v0) (hout : o + 1 < b ∨ b + 56 ≤ o) (hq : ∀ h', fr (bnA b) h h' → bnS h' b (v0 :: st) tm → Q 0 none h') : PR (d + 3) 6 [.ref b, .ref o] h Q := by
  obtain ⟨hl0, R, V, b1, b2, b3, b4, b5⟩ := hb
  have F := bF b1
  show PW (d + 3) 6 0 [some (.ref b), some (.ref o)] [] h Q
  refine vs_ok 1 ?_
  rw [show ((gRes 6).drop 0).take 1 = [.aload 0] from rfl]
  simp (disch := omega) only [vs_aload0, vs_nil, gv_0, gv_1, gv_2, gv_3, pv_0, pv_1, va_rf_s, Nat.reduceDiv, Nat.reduceMod, Nat.reduceAdd, Nat.reduceMul, Int.reduceToNat, true_and, and_true, and_self, cP_eq, cP_ne, cP_lt, cP_ge, cP_gt, cP_le, eL_i, eL_l, eL_r, eL_n, Option.toList_none, Option.toList_some, List.nil_append, List.cons_append, kkI, llI, nnI, rrI, jjI, kkJ, llJ, nnJ, rrJ, iiJ, zIIs, zJJs, nEF, nET, and_false, false_and, jmin, jmax, catS_n, catS_i, catS_r, catS_l, Nat.reduceLeDiff, j1eq1, n21, jt0, jt1, Bool.false_eq_true, Classical.not_not, true_or, or_true, false_or, or_false, true_imp_iff, false_imp_iff, not_true_eq_false, not_false_eq_true, jif0, jif1, jifb, ltT, ltF, leT, leF, eqT, eqF, jlt, jle, jeq, jlt0, jle0, jeq0, jge0, jgt0, jinB, jnat, clt, cle, ceq, cgt, cge, lI_add, lI_sub, lI_mul, jadd, jsub, jmul, jneg, jtol, b010, b011, pv_2t, Int.toNat_natCast, Option.some.injEq, exists_eq_left', if_true, if_false]
  refine PW.iv rfl rfl rfl F.1.1 F.1.2 (le_b rfl) (le_b rfl) ?_
  refine t_grow b1 (fun c g f hg => ⟨rfl, ⟨f.2.2.1, rfl⟩, ?_⟩) (fun c g f hg => absurd (show (st.length : Int) < 24 by omega) c)
  have fA : fr (bnA b) h g := f.wk fun q z => by unfold bnA; omega
  have gv : bnV g R V := bnV.keep b1 b2 f (fun q z => by omega)
  have gz : bnZ g b := b3.keep' f (fun q z => by omega)
  cases tm with
  | true =>
    refine vs_ok 1 ?_
    rw [show ((gRes 6).drop 2).take 1 = [.ifCond .eq 7] from rfl]
    simp (disch := omega) only [vs_ifCond, vs_nil, gv_0, gv_1, gv_2, gv_3, pv_0, pv_1, va_rf_s, Nat.reduceDiv, Nat.reduceMod, Nat.reduceAdd, Nat.reduceMul, Int.reduceToNat, true_and, and_true, and_self, cP_eq, cP_ne, cP_lt, cP_ge, cP_gt, cP_le, eL_i, eL_l, eL_r, eL_n, Option.toList_none, Option.toList_some, List.nil_append, List.cons_append, kkI, llI, nnI, rrI, jjI, kkJ, llJ, nnJ, rrJ, iiJ, zIIs, zJJs, nEF, nET, and_false, false_and, jmin, jmax, catS_n, catS_i, catS_r, catS_l, Nat.reduceLeDiff, j1eq1, n21, jt0, jt1, Bool.false_eq_true, Classical.not_not, true_or, or_true, false_or, or_false, true_imp_iff, false_imp_iff, not_true_eq_false, not_false_eq_true, jif0, jif1, jifb, ltT, ltF, leT, leF, eqT, eqF, jlt, jle, jeq, jlt0, jle0, jeq0, jge0, jgt0, jinB, jnat, clt, cle, ceq, cgt, cge, lI_add, lI_sub, lI_mul, jadd, jsub, jmul, jneg, jtol, b010, b011, pv_2t, Int.toNat_natCast, Option.some.injEq, exists_eq_left', if_true, if_false, i1e0]
    refine vs_ok 1 ?_
    rw [show ((gRes 6).drop 7).take 1 = [.return_] from rfl]
    simp (disch := omega) only [vs_return_, vs_nil, gv_0, gv_1, gv_2, gv_3, pv_0, pv_1, va_rf_s, Nat.reduceDiv, Nat.reduceMod, Nat.reduceAdd, Nat.reduceMul, Int.reduceToNat, true_and, and_true, and_self, cP_eq, cP_ne, cP_lt, cP_ge, cP_gt, cP_le, eL_i, eL_l, eL_r, eL_n, Option.toList_none, Option.toList_some, List.nil_append, List.cons_append, kkI, llI, nnI, rrI, jjI, kkJ, llJ, nnJ, rrJ, iiJ, zIIs, zJJs, nEF, nET, and_false, false_and, jmin, jmax, catS_n, catS_i, catS_r, catS_l, Nat.reduceLeDiff, j1eq1, n21, jt0, jt1, Bool.false_eq_true, Classical.not_not, true_or, or_true, false_or, or_false, true_imp_iff, false_imp_iff, not_true_eq_false, not_false_eq_true, jif0, jif1, jifb, ltT, ltF, leT, leF, eqT, eqF, jlt, jle, jeq, jlt0, jle0, jeq0, jge0, jgt0, jinB, jnat, clt, cle, ceq, cgt, cge, lI_add, lI_sub, lI_mul, jadd, jsub, jmul, jneg, jtol, b010, b011, pv_2t, Int.toNat_natCast, Option.some.injEq, exists_eq_left', if_true, if_false, show gRc 6 = 0 from rfl]
    exact hq g fA ⟨hl, R, V, hg, gv, gz, b4, fun z => (by simp at z)⟩
  | false =>
    refine vs_ok 1 ?_
    rw [show ((gRes 6).drop 2).take 1 = [.ifCond .eq 7] from rfl]
    simp (disch := omega) only [vs_ifCond, vs_nil, gv_0, gv_1, gv_2, gv_3, pv_0, pv_1, va_rf_s, Nat.reduceDiv, Nat.reduceMod, Nat.reduceAdd, Nat.reduceMul, Int.reduceToNat, true_and, and_true, and_self, cP_eq, cP_ne, cP_lt, cP_ge, cP_gt, cP_le, eL_i, eL_l, eL_r, eL_n, Option.toList_none, Option.toList_some, List.nil_append, List.cons_append, kkI, llI, nnI, rrI, jjI, kkJ, llJ, nnJ, rrJ, iiJ, zIIs, zJJs, nEF, nET, and_false, false_and, jmin, jmax, catS_n, catS_i, catS_r, catS_l, Nat.reduceLeDiff, j1eq1, n21, jt0, jt1, Bool.false_eq_true, Classical.not_not, true_or, or_true, false_or, or_false, true_imp_iff, false_imp_iff, not_true_eq_false, not_false_eq_true, jif0, jif1, jifb, ltT, ltF, leT, leF, eqT, eqF, jlt, jle, jeq, jlt0, jle0, jeq0, jge0, jgt0, jinB, jnat, clt, cle, ceq, cgt, cge, lI_add, lI_sub, lI_mul, jadd, jsub, jmul, jneg, jtol, b010, b011, pv_2t, Int.toNat_natCast, Option.some.injEq, exists_eq_left', if_true, if_false, i1e0]
    refine vs_ok 1 ?_
    rw [show ((gRes 6).drop 3).take 1 = [.aload 0] from rfl]
    simp (disch := omega) only [vs_aload0, vs_nil, gv_0, gv_1, gv_2, gv_3, pv_0, pv_1, va_rf_s, Nat.reduceDiv, Nat.reduceMod, Nat.reduceAdd, Nat.reduceMul, Int.reduceToNat, true_and, and_true, and_self, cP_eq, cP_ne, cP_lt, cP_ge, cP_gt, cP_le, eL_i, eL_l, eL_r, eL_n, Option.toList_none, Option.toList_some, List.nil_append, List.cons_append, kkI, llI, nnI, rrI, jjI, kkJ, llJ, nnJ, rrJ, iiJ, zIIs, zJJs, nEF, nET, and_false, false_and, jmin, jmax, catS_n, catS_i, catS_r, catS_l, Nat.reduceLeDiff, j1eq1, n21, jt0, jt1, Bool.false_eq_true, Classical.not_not, true_or, or_true, false_or, or_false, true_imp_iff, false_imp_iff, not_true_eq_false, not_false_eq_true, jif0, jif1, jifb, ltT, ltF, leT, leF, eqT, eqF, jlt, jle, jeq, jlt0, jle0, jeq0, jge0, jgt0, jinB, jnat, clt, cle, ceq, cgt, cge, lI_add, lI_sub, lI_mul, jadd, jsub, jmul, jneg, jtol, b010, b011, pv_2t, Int.toNat_natCast, Option.some.injEq, exists_eq_left', if_true, if_false]
    have F2 := bF hg
    have ra := bn_at hg (i := st.length) (by omega)
    have ro := gv st.length (by omega)
    have go : rowP g o 200 v0 := ho.keep f (by omega) (by omega)
    have g1 := hg0.1
    refine PW.iv rfl rfl rfl F2.1.1 F2.1.2 (le_b rfl) (le_b rfl) ?_
    refine t_topN (p := st.length) hg hl ⟨rfl, ⟨rfl, decide_eq_true (Or.inl ro.1.2.1)⟩, ?_⟩
    refine vs_ok 1 ?_
    rw [show ((gRes 6).drop 5).take 1 = [.aload 1] from rfl]
    simp (disch := omega) only [vs_aload1, vs_nil, gv_0, gv_1, gv_2, gv_3, pv_0, pv_1, va_rf_s, Nat.reduceDiv, Nat.reduceMod, Nat.reduceAdd, Nat.reduceMul, Int.reduceToNat, true_and, and_true, and_self, cP_eq, cP_ne, cP_lt, cP_ge, cP_gt, cP_le, eL_i, eL_l, eL_r, eL_n, Option.toList_none, Option.toList_some, List.nil_append, List.cons_append, kkI, llI, nnI, rrI, jjI, kkJ, llJ, nnJ, rrJ, iiJ, zIIs, zJJs, nEF, nET, and_false, false_and, jmin, jmax, catS_n, catS_i, catS_r, catS_l, Nat.reduceLeDiff, j1eq1, n21, jt0, jt1, Bool.false_eq_true, Classical.not_not, true_or, or_true, false_or, or_false, true_imp_iff, false_imp_iff, not_true_eq_false, not_false_eq_true, jif0, jif1, jifb, ltT, ltF, leT, leF, eqT, eqF, jlt, jle, jeq, jlt0, jle0, jeq0, jge0, jgt0, jinB, jnat, clt, cle, ceq, cgt, cge, lI_add, lI_sub, lI_mul, jadd, jsub, jmul, jneg, jtol, b010, b011, pv_2t, Int.toNat_natCast, Option.some.injEq, exists_eq_left', if_true, if_false]
    refine PW.iv rfl rfl rfl ro.1.1 ro.1.2.1 (le_b rfl) (le_b rfl) ?_
    refine t_copy ro go (by unfold apt; omega) ⟨by omega, by omega⟩ fun g' f' v' => ⟨rfl, ⟨f'.2.2.1, rfl⟩, ?_⟩
    refine vs_ok 1 ?_
    rw [show ((gRes 6).drop 7).take 1 = [.return_] from rfl]
    simp (disch := omega) only [vs_return_, vs_nil, gv_0, gv_1, gv_2, gv_3, pv_0, pv_1, va_rf_s, Nat.reduceDiv, Nat.reduceMod, Nat.reduceAdd, Nat.reduceMul, Int.reduceToNat, true_and, and_true, and_self, cP_eq, cP_ne, cP_lt, cP_ge, cP_gt, cP_le, eL_i, eL_l, eL_r, eL_n, Option.toList_none, Option.toList_some, List.nil_append, List.cons_append, kkI, llI, nnI, rrI, jjI, kkJ, llJ, nnJ, rrJ, iiJ, zIIs, zJJs, nEF, nET, and_false, false_and, jmin, jmax, catS_n, catS_i, catS_r, catS_l, Nat.reduceLeDiff, j1eq1, n21, jt0, jt1, Bool.false_eq_true, Classical.not_not, true_or, or_true, false_or, or_false, true_imp_iff, false_imp_iff, not_true_eq_false, not_false_eq_true, jif0, jif1, jifb, ltT, ltF, leT, leF, eqT, eqF, jlt, jle, jeq, jlt0, jle0, jeq0, jge0, jgt0, jinB, jnat, clt, cle, ceq, cgt, cge, lI_add, lI_sub, lI_mul, jadd, jsub, jmul, jneg, jtol, b010, b011, pv_2t, Int.toNat_natCast, Option.some.injEq, exists_eq_left', if_true, if_false, show gRc 6 = 0 from rfl]
    obtain ⟨u0, u1, u2, u3, u4⟩ := bn_put hg gv gz b4 (show st.length < 26 by omega) f' (v := v0) v' hg0
    refine hq g' (fA.tr u0) ⟨hl, R, _, u1, u2, u3, u4, fun _ i v hi => ?_⟩
    cases i with
    | zero =>
      have : v0 = v := by simpa using hi
      rw [← this]
      exact ⟨hg0, if_pos (by show st.length + 1 - 1 - 0 = st.length; omega)⟩
    | succ i =>
      have hi' : st[i]? = some v := by simpa using hi
      have hil := (List.getElem?_eq_some_iff.mp hi').1
      obtain ⟨c1, c2⟩ := b5 rfl i v hi'
      refine ⟨c1, ?_⟩
      show (if st.length + 1 - 1 - (i + 1) = st.length then v0 else V (st.length + 1 - 1 - (i + 1))) = v
      rw [if_neg (by omega), show st.length + 1 - 1 - (i + 1) = st.length - 1 - i by omega]
      exact c2
/-- the spare row's value w takes place s -/
theorem bn_swap {g g2 : Hp} {b s : Nat} {ht : Int} {tm : Bool} {R : Nat → Nat} {V : Nat → RowVal} {w : RowVal} (hs : s < 24) (hB : ∀ i, i < 26 → rB (V i)) (hw : V 24 = w) (f : fr (fun q => q = b ∨ q = b + 1) g g2) (hz : bnZ g b) : bnZ g2 b ∧ (∀ i, i < 26 → rB ((fun i => V (swi s 24 i)) i)) ∧ (fun i => V (swi s 24 i)) s = w ∧ ∀ i, i < 24 → i ≠ s → (fun i => V (swi s 24 i)) i = V i := by
  refine ⟨hz.keep' f (fun q z => by omega), fun i hi => hB _ (swi_lt (by omega) (by omega) hi), ?_, fun i hi hne => ?_⟩
  · show V (swi s 24 s) = w
    unfold swi
    rw [if_pos rfl, hw]
  · show V (swi s 24 i) = V i
    unfold swi
    rw [if_neg hne, if_neg (by omega)]
theorem okS_neg {v : RowVal} (h : gV v) : okS 1 (nuV 0) v := by
  have h1 := h.1
  have h2 := h.2.2.2.2.2
  refine ⟨?_, ?_, ?_⟩
  · show -200 ≤ (if (1 : Int32) = 0 then (0 : Int) + v.1 else 0 - v.2.1)
    rw [if_neg (by decide)]
    omega
  · show (if (1 : Int32) = 0 then (0 : Int) + v.2.1 else 0 - v.1) ≤ 200
    rw [if_neg (by decide)]
    omega
  · show 1 * v.2.2.1 ≤ 1000000000
    omega
theorem t_bnNegate {d : Nat} {h : Hp} {b : Nat} {st : List RowVal} {tm : Bool} {v0 : RowVal} {Q : Nat → Option Value → Hp → Prop} (hb : bnS h b (v0 :: st) tm) (hq : ∀ h', fr (bnA b) h h' → bnS h' b (adV 1 (nuV 0) v0 :: st) tm → Q 0 none h') : PR (d + 3) 7 [.ref b] h Q := by
  obtain ⟨hl0, R, V, b1, b2, b3, b4, b5⟩ := hb
  have hl : st.length < 24 := by
    have : (v0 :: st).length = st.length + 1 := rfl
    omega
  have F := bF b1
  show PW (d + 3) 7 0 [some (.ref b)] [] h Q
  cases tm with
  | true =>
    refine vs_ok 3 ?_
    rw [show ((gRes 7).drop 0).take 3 = [.aload 0, .getfield 53, .ifCond .ne 17] from rfl]
    simp (disch := omega) only [vs_ifCond, vs_getfield, vs_aload0, vs_nil, gv_0, gv_1, gv_2, gv_3, pv_0, pv_1, va_rf_s, Nat.reduceDiv, Nat.reduceMod, Nat.reduceAdd, Nat.reduceMul, Int.reduceToNat, true_and, and_true, and_self, cP_eq, cP_ne, cP_lt, cP_ge, cP_gt, cP_le, eL_i, eL_l, eL_r, eL_n, Option.toList_none, Option.toList_some, List.nil_append, List.cons_append, kkI, llI, nnI, rrI, jjI, kkJ, llJ, nnJ, rrJ, iiJ, zIIs, zJJs, nEF, nET, and_false, false_and, jmin, jmax, catS_n, catS_i, catS_r, catS_l, Nat.reduceLeDiff, j1eq1, n21, jt0, jt1, Bool.false_eq_true, Classical.not_not, true_or, or_true, false_or, or_false, true_imp_iff, false_imp_iff, not_true_eq_false, not_false_eq_true, jif0, jif1, jifb, ltT, ltF, leT, leF, eqT, eqF, jlt, jle, jeq, jlt0, jle0, jeq0, jge0, jgt0, jinB, jnat, clt, cle, ceq, cgt, cge, lI_add, lI_sub, lI_mul, jadd, jsub, jmul, jneg, jtol, b010, b011, pv_2t, Int.toNat_natCast, Option.some.injEq, exists_eq_left', if_true, if_false, F, i1e0]
    refine vs_ok 1 ?_
    rw [show ((gRes 7).drop 17).take 1 = [.return_] from rfl]
    simp (disch := omega) only [vs_return_, vs_nil, gv_0, gv_1, gv_2, gv_3, pv_0, pv_1, va_rf_s, Nat.reduceDiv, Nat.reduceMod, Nat.reduceAdd, Nat.reduceMul, Int.reduceToNat, true_and, and_true, and_self, cP_eq, cP_ne, cP_lt, cP_ge, cP_gt, cP_le, eL_i, eL_l, eL_r, eL_n, Option.toList_none, Option.toList_some, List.nil_append, List.cons_append, kkI, llI, nnI, rrI, jjI, kkJ, llJ, nnJ, rrJ, iiJ, zIIs, zJJs, nEF, nET, and_false, false_and, jmin, jmax, catS_n, catS_i, catS_r, catS_l, Nat.reduceLeDiff, j1eq1, n21, jt0, jt1, Bool.false_eq_true, Classical.not_not, true_or, or_true, false_or, or_false, true_imp_iff, false_imp_iff, not_true_eq_false, not_false_eq_true, jif0, jif1, jifb, ltT, ltF, leT, leF, eqT, eqF, jlt, jle, jeq, jlt0, jle0, jeq0, jge0, jgt0, jinB, jnat, clt, cle, ceq, cgt, cge, lI_add, lI_sub, lI_mul, jadd, jsub, jmul, jneg, jtol, b010, b011, pv_2t, Int.toNat_natCast, Option.some.injEq, exists_eq_left', if_true, if_false, show gRc 7 = 0 from rfl]
    exact hq h fr.rf ⟨hl0, R, V, b1, b2, b3, b4, fun z => (by simp at z)⟩
  | false =>
    obtain ⟨gv0, vp⟩ := b5 rfl 0 v0 rfl
    have vp : V st.length = v0 := by
      have : (v0 :: st).length - 1 - 0 = st.length := by show st.length + 1 - 1 - 0 = st.length; omega
      rw [this] at vp
      exact vp
    have r24 := b2 24 (by omega)
    have rp := b2 st.length (by omega)
    rw [vp] at rp
    have ap := bn_at b1 (i := 24) (by omega)
    have ok := okS_neg gv0
    have z1 := gv0.2.2.2.2.2
    refine vs_ok 3 ?_
    rw [show ((gRes 7).drop 0).take 3 = [.aload 0, .getfield 53, .ifCond .ne 17] from rfl]
    simp (disch := omega) only [vs_ifCond, vs_getfield, vs_aload0, vs_nil, gv_0, gv_1, gv_2, gv_3, pv_0, pv_1, va_rf_s, Nat.reduceDiv, Nat.reduceMod, Nat.reduceAdd, Nat.reduceMul, Int.reduceToNat, true_and, and_true, and_self, cP_eq, cP_ne, cP_lt, cP_ge, cP_gt, cP_le, eL_i, eL_l, eL_r, eL_n, Option.toList_none, Option.toList_some, List.nil_append, List.cons_append, kkI, llI, nnI, rrI, jjI, kkJ, llJ, nnJ, rrJ, iiJ, zIIs, zJJs, nEF, nET, and_false, false_and, jmin, jmax, catS_n, catS_i, catS_r, catS_l, Nat.reduceLeDiff, j1eq1, n21, jt0, jt1, Bool.false_eq_true, Classical.not_not, true_or, or_true, false_or, or_false, true_imp_iff, false_imp_iff, not_true_eq_false, not_false_eq_true, jif0, jif1, jifb, ltT, ltF, leT, leF, eqT, eqF, jlt, jle, jeq, jlt0, jle0, jeq0, jge0, jgt0, jinB, jnat, clt, cle, ceq, cgt, cge, lI_add, lI_sub, lI_mul, jadd, jsub, jmul, jneg, jtol, b010, b011, pv_2t, Int.toNat_natCast, Option.some.injEq, exists_eq_left', if_true, if_false, F, i1e0]
    refine vs_ok 5 ?_
    rw [show ((gRes 7).drop 3).take 5 = [.aload 0, .getfield 12, .aload 0, .getfield 32, .aload 0] from rfl]
    simp (disch := omega) only [vs_getfield, vs_aload0, vs_nil, gv_0, gv_1, gv_2, gv_3, pv_0, pv_1, va_rf_s, Nat.reduceDiv, Nat.reduceMod, Nat.reduceAdd, Nat.reduceMul, Int.reduceToNat, true_and, and_true, and_self, cP_eq, cP_ne, cP_lt, cP_ge, cP_gt, cP_le, eL_i, eL_l, eL_r, eL_n, Option.toList_none, Option.toList_some, List.nil_append, List.cons_append, kkI, llI, nnI, rrI, jjI, kkJ, llJ, nnJ, rrJ, iiJ, zIIs, zJJs, nEF, nET, and_false, false_and, jmin, jmax, catS_n, catS_i, catS_r, catS_l, Nat.reduceLeDiff, j1eq1, n21, jt0, jt1, Bool.false_eq_true, Classical.not_not, true_or, or_true, false_or, or_false, true_imp_iff, false_imp_iff, not_true_eq_false, not_false_eq_true, jif0, jif1, jifb, ltT, ltF, leT, leF, eqT, eqF, jlt, jle, jeq, jlt0, jle0, jeq0, jge0, jgt0, jinB, jnat, clt, cle, ceq, cgt, cge, lI_add, lI_sub, lI_mul, jadd, jsub, jmul, jneg, jtol, b010, b011, pv_2t, Int.toNat_natCast, Option.some.injEq, exists_eq_left', if_true, if_false, F]
    refine PW.iv rfl rfl rfl F.1.1 F.1.2 (le_b rfl) (le_b rfl) ?_
    refine t_topN (p := st.length) b1 hl ⟨rfl, ⟨rfl, decide_eq_true (Or.inl (b2 st.length (by omega)).1.2.1)⟩, ?_⟩
    refine vs_ok 1 ?_
    rw [show ((gRes 7).drop 9).take 1 = [.iconst 1] from rfl]
    simp (disch := omega) only [vs_iconst, vs_nil, gv_0, gv_1, gv_2, gv_3, pv_0, pv_1, va_rf_s, Nat.reduceDiv, Nat.reduceMod, Nat.reduceAdd, Nat.reduceMul, Int.reduceToNat, true_and, and_true, and_self, cP_eq, cP_ne, cP_lt, cP_ge, cP_gt, cP_le, eL_i, eL_l, eL_r, eL_n, Option.toList_none, Option.toList_some, List.nil_append, List.cons_append, kkI, llI, nnI, rrI, jjI, kkJ, llJ, nnJ, rrJ, iiJ, zIIs, zJJs, nEF, nET, and_false, false_and, jmin, jmax, catS_n, catS_i, catS_r, catS_l, Nat.reduceLeDiff, j1eq1, n21, jt0, jt1, Bool.false_eq_true, Classical.not_not, true_or, or_true, false_or, or_false, true_imp_iff, false_imp_iff, not_true_eq_false, not_false_eq_true, jif0, jif1, jifb, ltT, ltF, leT, leF, eqT, eqF, jlt, jle, jeq, jlt0, jle0, jeq0, jge0, jgt0, jinB, jnat, clt, cle, ceq, cgt, cge, lI_add, lI_sub, lI_mul, jadd, jsub, jmul, jneg, jtol, b010, b011, pv_2t, Int.toNat_natCast, Option.some.injEq, exists_eq_left', if_true, if_false]
    refine PW.iv rfl rfl rfl r24.1.1 r24.1.2.1 (le_b rfl) (le_b rfl) ?_
    refine t_takeSum (mi := Int32.ofInt 1) r24 b3 rp ap.2.2.1 (ap.2.2.2 _ (by omega) (by omega)) (Or.inr rfl) ⟨by omega, by omega⟩ ⟨by omega, by omega⟩ (fun m => (rB.b (Or.inl (gV_nu (n := 0) ⟨by omega, by omega⟩))).2.1 m) (fun c => absurd ok c) fun c g f gr => ⟨rfl, ⟨f.2.2.1, rfl⟩, ?_⟩
    obtain ⟨u0, u1, u2, u3, u4⟩ := bn_put b1 b2 b3 b4 (show 24 < 26 by omega) f (v := adV 1 (nuV 0) v0) gr (gV_ad (gV_nu ⟨by omega, by omega⟩) gv0 ok)
    have F1 := bF u1
    refine vs_ok 1 ?_
    rw [show ((gRes 7).drop 11).take 1 = [.ifCond .eq 17] from rfl]
    simp (disch := omega) only [vs_ifCond, vs_nil, gv_0, gv_1, gv_2, gv_3, pv_0, pv_1, va_rf_s, Nat.reduceDiv, Nat.reduceMod, Nat.reduceAdd, Nat.reduceMul, Int.reduceToNat, true_and, and_true, and_self, cP_eq, cP_ne, cP_lt, cP_ge, cP_gt, cP_le, eL_i, eL_l, eL_r, eL_n, Option.toList_none, Option.toList_some, List.nil_append, List.cons_append, kkI, llI, nnI, rrI, jjI, kkJ, llJ, nnJ, rrJ, iiJ, zIIs, zJJs, nEF, nET, and_false, false_and, jmin, jmax, catS_n, catS_i, catS_r, catS_l, Nat.reduceLeDiff, j1eq1, n21, jt0, jt1, Bool.false_eq_true, Classical.not_not, true_or, or_true, false_or, or_false, true_imp_iff, false_imp_iff, not_true_eq_false, not_false_eq_true, jif0, jif1, jifb, ltT, ltF, leT, leF, eqT, eqF, jlt, jle, jeq, jlt0, jle0, jeq0, jge0, jgt0, jinB, jnat, clt, cle, ceq, cgt, cge, lI_add, lI_sub, lI_mul, jadd, jsub, jmul, jneg, jtol, b010, b011, pv_2t, Int.toNat_natCast, Option.some.injEq, exists_eq_left', if_true, if_false, i1e0]
    refine vs_ok 3 ?_
    rw [show ((gRes 7).drop 12).take 3 = [.aload 0, .aload 0, .iconst 0] from rfl]
    simp (disch := omega) only [vs_iconst, vs_aload0, vs_nil, gv_0, gv_1, gv_2, gv_3, pv_0, pv_1, va_rf_s, Nat.reduceDiv, Nat.reduceMod, Nat.reduceAdd, Nat.reduceMul, Int.reduceToNat, true_and, and_true, and_self, cP_eq, cP_ne, cP_lt, cP_ge, cP_gt, cP_le, eL_i, eL_l, eL_r, eL_n, Option.toList_none, Option.toList_some, List.nil_append, List.cons_append, kkI, llI, nnI, rrI, jjI, kkJ, llJ, nnJ, rrJ, iiJ, zIIs, zJJs, nEF, nET, and_false, false_and, jmin, jmax, catS_n, catS_i, catS_r, catS_l, Nat.reduceLeDiff, j1eq1, n21, jt0, jt1, Bool.false_eq_true, Classical.not_not, true_or, or_true, false_or, or_false, true_imp_iff, false_imp_iff, not_true_eq_false, not_false_eq_true, jif0, jif1, jifb, ltT, ltF, leT, leF, eqT, eqF, jlt, jle, jeq, jlt0, jle0, jeq0, jge0, jgt0, jinB, jnat, clt, cle, ceq, cgt, cge, lI_add, lI_sub, lI_mul, jadd, jsub, jmul, jneg, jtol, b010, b011, pv_2t, Int.toNat_natCast, Option.some.injEq, exists_eq_left', if_true, if_false]
    refine PW.iv rfl rfl rfl F1.1.1 F1.1.2 (le_b rfl) (le_b rfl) ?_
    refine t_slotN (p := st.length) (k := 0) u1 rfl (by omega) ⟨rfl, ⟨rfl, rfl⟩, ?_⟩
    refine PW.iv rfl rfl rfl F1.1.1 F1.1.2 (le_b rfl) (le_b rfl) ?_
    refine t_swapSpare u1 u2 hl fun g2 f2 w1 w2 => ⟨rfl, ⟨f2.2.2.1, rfl⟩, ?_⟩
    refine vs_ok 1 ?_
    rw [show ((gRes 7).drop 17).take 1 = [.return_] from rfl]
    simp (disch := omega) only [vs_return_, vs_nil, gv_0, gv_1, gv_2, gv_3, pv_0, pv_1, va_rf_s, Nat.reduceDiv, Nat.reduceMod, Nat.reduceAdd, Nat.reduceMul, Int.reduceToNat, true_and, and_true, and_self, cP_eq, cP_ne, cP_lt, cP_ge, cP_gt, cP_le, eL_i, eL_l, eL_r, eL_n, Option.toList_none, Option.toList_some, List.nil_append, List.cons_append, kkI, llI, nnI, rrI, jjI, kkJ, llJ, nnJ, rrJ, iiJ, zIIs, zJJs, nEF, nET, and_false, false_and, jmin, jmax, catS_n, catS_i, catS_r, catS_l, Nat.reduceLeDiff, j1eq1, n21, jt0, jt1, Bool.false_eq_true, Classical.not_not, true_or, or_true, false_or, or_false, true_imp_iff, false_imp_iff, not_true_eq_false, not_false_eq_true, jif0, jif1, jifb, ltT, ltF, leT, leF, eqT, eqF, jlt, jle, jeq, jlt0, jle0, jeq0, jge0, jgt0, jinB, jnat, clt, cle, ceq, cgt, cge, lI_add, lI_sub, lI_mul, jadd, jsub, jmul, jneg, jtol, b010, b011, pv_2t, Int.toNat_natCast, Option.some.injEq, exists_eq_left', if_true, if_false, show gRc 7 = 0 from rfl]
    obtain ⟨y1, y2, y3, y4⟩ := bn_swap (ht := (st.length : Int)) (tm := false) (R := R) hl u4 (if_pos rfl) f2 u3
    refine hq g2 (u0.tr (f2.wk fun q z => by unfold bnA; omega)) ⟨hl0, _, _, w1, w2, y1, y2, fun _ i v hi => ?_⟩
    cases i with
    | zero =>
      have : adV 1 (nuV 0) v0 = v := by simpa using hi
      rw [← this]
      refine ⟨gV_ad (gV_nu ⟨by omega, by omega⟩) gv0 ok, ?_⟩
      rw [show (adV 1 (nuV 0) v0 :: st).length - 1 - 0 = st.length by show st.length + 1 - 1 - 0 = st.length; omega]
      exact y3
    | succ i =>
      have hi' : st[i]? = some v := by simpa using hi
      have hil := (List.getElem?_eq_some_iff.mp hi').1
      obtain ⟨c1, c2⟩ := b5 rfl (i + 1) v hi'
      refine ⟨c1, ?_⟩
      have e : (adV 1 (nuV 0) v0 :: st).length - 1 - (i + 1) = (v0 :: st).length - 1 - (i + 1) := rfl
      have e2 : (v0 :: st).length = st.length + 1 := rfl
      refine (y4 ((v0 :: st).length - 1 - (i + 1)) (by omega) (by omega)).trans ?_
      show (if (v0 :: st).length - 1 - (i + 1) = 24 then _ else V ((v0 :: st).length - 1 - (i + 1))) = v
      rw [if_neg (by omega)]
      exact c2
