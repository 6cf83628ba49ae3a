/-! the Model's pool: a slot holds the WAYS of each number and all of them -/
/-- slot s of the pool has the ways W (of -200 .. 200), all tot -/
def slW (h : Hp) (m s : Nat) (W : Int → Int) (tot : Int) : Prop := (∀ k, k < 401 → zJ h (m + 2) (401 * s + k) = lI (W ((k : Int) - 200))) ∧ zJ h (m + 3) s = lI tot
abbrev slV (h : Hp) (m s : Nat) (v : RowVal) : Prop := slW h m s v.2.2.2 v.2.2.1
theorem slW.of {h g : Hp} {m s : Nat} {W : Int → Int} {tot : Int} (v : slW h m s W tot) (h1 : zJ g (m + 2) = zJ h (m + 2)) (h2 : zJ g (m + 3) = zJ h (m + 3)) : slW g m s W tot := ⟨fun k hk => by rw [h1]; exact v.1 k hk, by rw [h2]; exact v.2⟩
theorem slW.fi {S : Nat → Prop} {h g : Hp} {m s : Nat} {W : Int → Int} {tot : Int} (v : slW h m s W tot) (f : fi S h g) (h1 : ¬ S (m + 2)) (h2 : ¬ S (m + 3)) : slW g m s W tot := v.of (f.1.2.2.2.2.2.2.1 _ h1) (f.1.2.2.2.2.2.2.1 _ h2)
/-- g is h but for slot s -/
abbrev slC (h g : Hp) (m s : Nat) : Prop := fi (fun q => q = m + 2 ∨ q = m + 3) h g ∧ (∀ j, ¬ (401 * s ≤ j ∧ j < 401 * s + 401) → zJ g (m + 2) j = zJ h (m + 2) j) ∧ (∀ j, j ≠ s → zJ g (m + 3) j = zJ h (m + 3) j) ∧ zI g = zI h
theorem slC.rf {h : Hp} {m s : Nat} : slC h h m s := ⟨fi.rf, fun _ _ => rfl, fun _ _ => rfl, rfl⟩
theorem slC.tr {a b c : Hp} {m s : Nat} (x : slC a b m s) (y : slC b c m s) : slC a c m s := ⟨x.1.tr y.1, fun j hj => by rw [y.2.1 j hj, x.2.1 j hj], fun j hj => by rw [y.2.2.1 j hj, x.2.2.1 j hj], by rw [y.2.2.2, x.2.2.2]⟩
theorem slC.J {h g : Hp} {m s j : Nat} {v : Int64} (c : slC h g m s) (hj : 401 * s ≤ j ∧ j < 401 * s + 401) : slC h (zsJ g (m + 2) j v) m s :=
  ⟨c.1.J (Or.inl rfl), fun i hi => by rw [zJ_sJ, if_neg (by omega)]; exact c.2.1 i hi, fun i hi => by rw [zJ_sJ, if_neg (by omega)]; exact c.2.2.1 i hi, c.2.2.2⟩
theorem slC.A {h g : Hp} {m s : Nat} {v : Int64} (c : slC h g m s) : slC h (zsJ g (m + 3) s v) m s :=
  ⟨c.1.J (Or.inr rfl), fun i hi => by rw [zJ_sJ, if_neg (by omega)]; exact c.2.1 i hi, fun i hi => by rw [zJ_sJ, if_neg (by omega)]; exact c.2.2.1 i hi, c.2.2.2⟩
theorem slC.o {h g : Hp} {m s t : Nat} {W : Int → Int} {tot : Int} (c : slC h g m s) (v : slW h m t W tot) (ht : t ≠ s) : slW g m t W tot :=
  ⟨fun k hk => by rw [c.2.1 _ (by omega)]; exact v.1 k hk, by rw [c.2.2.1 t ht]; exact v.2⟩
theorem t_M_clear {d : Nat} {h : Hp} {m s : Nat} {Q : Nat → Option Value → Hp → Prop} (hm : mO h m) (hs : s < 49) (hq : ∀ g, slC h g m s → slW g m s (fun _ => 0) 0 → Q 0 none g) : PR d m_M_clear [.ref m, .int (iI s)] h Q := by
  show PW d 189 0 [some (.ref m), some (.int (iI s)), none] [] h Q
  have lp : ∀ (j k : Nat) (g : Hp), j + k = 401 → slC h g m s → (∀ i, i < k → zJ g (m + 2) (401 * s + i) = lI 0) → PW d 189 2 [some (.ref m), some (.int (iI s)), some (.int (iI k))] [] g Q := by
    intro j
    induction j with
    | zero =>
      intro k g hk f hz
      have e : k = 401 := by omega
      subst e
      have hg := hm.fi f.1
      have M := hg.k
      have A := hg.alls
      refine vs_ok 3 ?_
      rw [show ((gRes 189).drop 2).take 3 = [.iload 2, .iconst 401, .if_icmp .ge 16] from rfl]
      simp (disch := omega) only [vs_iconst, vs_if_icmp, vs_iload2, vs_nil, gv_0, gv_1, gv_2, gv_3, pv_0, pv_1, va_rf_s, Nat.reduceDiv, Nat.reduceMod, Nat.reduceAdd, Nat.reduceMul, Int.reduceToNat, true_and, and_true, and_self, cP_eq, cP_ne, cP_lt, cP_ge, cP_gt, cP_le, eL_i, eL_l, eL_r, eL_n, Option.toList_none, Option.toList_some, List.nil_append, List.cons_append, kkI, llI, nnI, rrI, jjI, kkJ, llJ, nnJ, rrJ, iiJ, zIIs, zJJs, nEF, nET, and_false, false_and, jmin, jmax, catS_n, catS_i, catS_r, catS_l, Nat.reduceLeDiff, j1eq1, n21, jt0, jt1, Bool.false_eq_true, Classical.not_not, true_or, or_true, false_or, or_false, true_imp_iff, false_imp_iff, not_true_eq_false, not_false_eq_true, jif0, jif1, jifb, ltT, ltF, leT, leF, eqT, eqF, jlt, jle, jeq, jlt0, jle0, jeq0, jge0, jgt0, jinB, jnat, clt, cle, ceq, cgt, cge, lI_add, lI_sub, lI_mul, jadd, jsub, jmul, jneg, jtol, b010, b011, pv_2t, Int.toNat_natCast, Option.some.injEq, exists_eq_left', if_true, if_false]
      refine vs_ok 6 ?_
      rw [show ((gRes 189).drop 16).take 6 = [.aload 0, .getfield 12062, .iload 1, .jsr_w 0, .lastore, .return_] from rfl]
      simp (disch := omega) only [vs_jsr_w, vs_getfield, vs_lastore, vs_return_, vs_aload0, vs_iload1, vs_nil, gv_0, gv_1, gv_2, gv_3, pv_0, pv_1, va_rf_s, Nat.reduceDiv, Nat.reduceMod, Nat.reduceAdd, Nat.reduceMul, Int.reduceToNat, true_and, and_true, and_self, cP_eq, cP_ne, cP_lt, cP_ge, cP_gt, cP_le, eL_i, eL_l, eL_r, eL_n, Option.toList_none, Option.toList_some, List.nil_append, List.cons_append, kkI, llI, nnI, rrI, jjI, kkJ, llJ, nnJ, rrJ, iiJ, zIIs, zJJs, nEF, nET, and_false, false_and, jmin, jmax, catS_n, catS_i, catS_r, catS_l, Nat.reduceLeDiff, j1eq1, n21, jt0, jt1, Bool.false_eq_true, Classical.not_not, true_or, or_true, false_or, or_false, true_imp_iff, false_imp_iff, not_true_eq_false, not_false_eq_true, jif0, jif1, jifb, ltT, ltF, leT, leF, eqT, eqF, jlt, jle, jeq, jlt0, jle0, jeq0, jge0, jgt0, jinB, jnat, clt, cle, ceq, cgt, cge, lI_add, lI_sub, lI_mul, jadd, jsub, jmul, jneg, jtol, b010, b011, pv_2t, Int.toNat_natCast, Option.some.injEq, exists_eq_left', if_true, if_false, M, A, show gRc 189 = 0 from rfl]
      refine hq _ f.A ⟨fun i hi => ?_, ?_⟩
      · rw [zJ_sJ, if_neg (by omega)]
        exact hz i hi
      · rw [zJ_sJ, if_pos ⟨rfl, rfl⟩]
    | succ j ih =>
      intro k g hk f hz
      have hg := hm.fi f.1
      have M := hg.k
      have A := hg.pool
      have e : (401 : Int) * (s : Int) + (k : Int) = ((401 * s + k : Nat) : Int) := by omega
      refine vs_ok 14 ?_
      rw [show ((gRes 189).drop 2).take 14 = [.iload 2, .iconst 401, .if_icmp .ge 16, .aload 0, .getfield 12052, .iconst 401, .iload 1, .imul, .iload 2, .iadd, .jsr_w 0, .lastore, .iinc 2 1, .goto 2] from rfl]
      simp (disch := omega) only [vs_iadd, vs_imul, vs_iconst, vs_jsr_w, vs_goto, vs_if_icmp, vs_getfield, vs_lastore, vs_aload0, vs_iload1, vs_iload2, vs_iinc2n, vs_iinc2i, vs_iinc2r, vs_iinc2l, vs_nil, gv_0, gv_1, gv_2, gv_3, pv_0, pv_1, va_rf_s, Nat.reduceDiv, Nat.reduceMod, Nat.reduceAdd, Nat.reduceMul, Int.reduceToNat, true_and, and_true, and_self, cP_eq, cP_ne, cP_lt, cP_ge, cP_gt, cP_le, eL_i, eL_l, eL_r, eL_n, Option.toList_none, Option.toList_some, List.nil_append, List.cons_append, kkI, llI, nnI, rrI, jjI, kkJ, llJ, nnJ, rrJ, iiJ, zIIs, zJJs, nEF, nET, and_false, false_and, jmin, jmax, catS_n, catS_i, catS_r, catS_l, Nat.reduceLeDiff, j1eq1, n21, jt0, jt1, Bool.false_eq_true, Classical.not_not, true_or, or_true, false_or, or_false, true_imp_iff, false_imp_iff, not_true_eq_false, not_false_eq_true, jif0, jif1, jifb, ltT, ltF, leT, leF, eqT, eqF, jlt, jle, jeq, jlt0, jle0, jeq0, jge0, jgt0, jinB, jnat, clt, cle, ceq, cgt, cge, lI_add, lI_sub, lI_mul, jadd, jsub, jmul, jneg, jtol, b010, b011, pv_2t, Int.toNat_natCast, Option.some.injEq, exists_eq_left', if_true, if_false, M, A, e]
      refine ih (k + 1) _ (by omega) (f.J (by omega)) fun i hi => ?_
      rw [zJ_sJ]
      by_cases c : i = k
      · rw [if_pos ⟨rfl, by omega⟩]
      · rw [if_neg (by omega)]
        exact hz i (by omega)
  refine vs_ok 2 ?_
  rw [show ((gRes 189).drop 0).take 2 = [.iconst 0, .istore 2] from rfl]
  simp (disch := omega) only [vs_iconst, vs_istore2n, vs_istore2i, vs_istore2r, vs_istore2l, vs_nil, gv_0, gv_1, gv_2, gv_3, pv_0, pv_1, va_rf_s, Nat.reduceDiv, Nat.reduceMod, Nat.reduceAdd, Nat.reduceMul, Int.reduceToNat, true_and, and_true, and_self, cP_eq, cP_ne, cP_lt, cP_ge, cP_gt, cP_le, eL_i, eL_l, eL_r, eL_n, Option.toList_none, Option.toList_some, List.nil_append, List.cons_append, kkI, llI, nnI, rrI, jjI, kkJ, llJ, nnJ, rrJ, iiJ, zIIs, zJJs, nEF, nET, and_false, false_and, jmin, jmax, catS_n, catS_i, catS_r, catS_l, Nat.reduceLeDiff, j1eq1, n21, jt0, jt1, Bool.false_eq_true, Classical.not_not, true_or, or_true, false_or, or_false, true_imp_iff, false_imp_iff, not_true_eq_false, not_false_eq_true, jif0, jif1, jifb, ltT, ltF, leT, leF, eqT, eqF, jlt, jle, jeq, jlt0, jle0, jeq0, jge0, jgt0, jinB, jnat, clt, cle, ceq, cgt, cge, lI_add, lI_sub, lI_mul, jadd, jsub, jmul, jneg, jtol, b010, b011, pv_2t, Int.toNat_natCast, Option.some.injEq, exists_eq_left', if_true, if_false]
  exact lp 401 0 h rfl slC.rf fun i hi => absurd hi (by omega)
theorem t_M_copy {d : Nat} {h : Hp} {m a b : Nat} {W : Int → Int} {tot : Int} {Q : Nat → Option Value → Hp → Prop} (hm : mO h m) (ha : a < 49) (hb : b < 49) (v : slW h m a W tot) (hq : ∀ g, slC h g m b → slW g m b W tot → Q 0 none g) : PR d m_M_copy [.ref m, .int (iI a), .int (iI b)] h Q := by
  show PW d 190 0 [some (.ref m), some (.int (iI a)), some (.int (iI b)), none] [] h Q
  have lp : ∀ (j k : Nat) (g : Hp), j + k = 401 → slC h g m b → slW g m a W tot → (∀ i, i < k → zJ g (m + 2) (401 * b + i) = lI (W ((i : Int) - 200))) → PW d 190 2 [some (.ref m), some (.int (iI a)), some (.int (iI b)), some (.int (iI k))] [] g Q := by
    intro j
    induction j with
    | zero =>
      intro k g hk f va hz
      have e : k = 401 := by omega
      subst e
      have hg := hm.fi f.1
      have M := hg.k
      have A := hg.alls
      have v2 := va.2
      refine vs_ok 3 ?_
      rw [show ((gRes 190).drop 2).take 3 = [.iload 3, .iconst 401, .if_icmp .ge 23] from rfl]
      simp (disch := omega) only [vs_iconst, vs_if_icmp, vs_iload3, vs_nil, gv_0, gv_1, gv_2, gv_3, pv_0, pv_1, va_rf_s, Nat.reduceDiv, Nat.reduceMod, Nat.reduceAdd, Nat.reduceMul, Int.reduceToNat, true_and, and_true, and_self, cP_eq, cP_ne, cP_lt, cP_ge, cP_gt, cP_le, eL_i, eL_l, eL_r, eL_n, Option.toList_none, Option.toList_some, List.nil_append, List.cons_append, kkI, llI, nnI, rrI, jjI, kkJ, llJ, nnJ, rrJ, iiJ, zIIs, zJJs, nEF, nET, and_false, false_and, jmin, jmax, catS_n, catS_i, catS_r, catS_l, Nat.reduceLeDiff, j1eq1, n21, jt0, jt1, Bool.false_eq_true, Classical.not_not, true_or, or_true, false_or, or_false, true_imp_iff, false_imp_iff, not_true_eq_false, not_false_eq_true, jif0, jif1, jifb, ltT, ltF, leT, leF, eqT, eqF, jlt, jle, jeq, jlt0, jle0, jeq0, jge0, jgt0, jinB, jnat, clt, cle, ceq, cgt, cge, lI_add, lI_sub, lI_mul, jadd, jsub, jmul, jneg, jtol, b010, b011, pv_2t, Int.toNat_natCast, Option.some.injEq, exists_eq_left', if_true, if_false]
      refine vs_ok 9 ?_
      rw [show ((gRes 190).drop 23).take 9 = [.aload 0, .getfield 12062, .iload 2, .aload 0, .getfield 12062, .iload 1, .laload, .lastore, .return_] from rfl]
      simp (disch := omega) only [vs_getfield, vs_laload, vs_lastore, vs_return_, vs_aload0, vs_iload1, vs_iload2, vs_nil, gv_0, gv_1, gv_2, gv_3, pv_0, pv_1, va_rf_s, Nat.reduceDiv, Nat.reduceMod, Nat.reduceAdd, Nat.reduceMul, Int.reduceToNat, true_and, and_true, and_self, cP_eq, cP_ne, cP_lt, cP_ge, cP_gt, cP_le, eL_i, eL_l, eL_r, eL_n, Option.toList_none, Option.toList_some, List.nil_append, List.cons_append, kkI, llI, nnI, rrI, jjI, kkJ, llJ, nnJ, rrJ, iiJ, zIIs, zJJs, nEF, nET, and_false, false_and, jmin, jmax, catS_n, catS_i, catS_r, catS_l, Nat.reduceLeDiff, j1eq1, n21, jt0, jt1, Bool.false_eq_true, Classical.not_not, true_or, or_true, false_or, or_false, true_imp_iff, false_imp_iff, not_true_eq_false, not_false_eq_true, jif0, jif1, jifb, ltT, ltF, leT, leF, eqT, eqF, jlt, jle, jeq, jlt0, jle0, jeq0, jge0, jgt0, jinB, jnat, clt, cle, ceq, cgt, cge, lI_add, lI_sub, lI_mul, jadd, jsub, jmul, jneg, jtol, b010, b011, pv_2t, Int.toNat_natCast, Option.some.injEq, exists_eq_left', if_true, if_false, M, A, v2, show gRc 190 = 0 from rfl]
      refine hq _ f.A ⟨fun i hi => ?_, ?_⟩
      · rw [zJ_sJ, if_neg (by omega)]
        exact hz i hi
      · rw [zJ_sJ, if_pos ⟨rfl, rfl⟩]
    | succ j ih =>
      intro k g hk f va hz
      have hg := hm.fi f.1
      have M := hg.k
      have A := hg.pool
      have e1 : (401 : Int) * (a : Int) + (k : Int) = ((401 * a + k : Nat) : Int) := by omega
      have e2 : (401 : Int) * (b : Int) + (k : Int) = ((401 * b + k : Nat) : Int) := by omega
      have vk := va.1 k (by omega)
      refine vs_ok 21 ?_
      rw [show ((gRes 190).drop 2).take 21 = [.iload 3, .iconst 401, .if_icmp .ge 23, .aload 0, .getfield 12052, .iconst 401, .iload 2, .imul, .iload 3, .iadd, .aload 0, .getfield 12052, .iconst 401, .iload 1, .imul, .iload 3, .iadd, .laload, .lastore, .iinc 3 1, .goto 2] from rfl]
      simp (disch := omega) only [vs_iadd, vs_imul, vs_iconst, vs_goto, vs_if_icmp, vs_getfield, vs_laload, vs_lastore, vs_aload0, vs_iload1, vs_iload2, vs_iload3, vs_iinc3n, vs_iinc3i, vs_iinc3r, vs_iinc3l, vs_nil, gv_0, gv_1, gv_2, gv_3, pv_0, pv_1, va_rf_s, Nat.reduceDiv, Nat.reduceMod, Nat.reduceAdd, Nat.reduceMul, Int.reduceToNat, true_and, and_true, and_self, cP_eq, cP_ne, cP_lt, cP_ge, cP_gt, cP_le, eL_i, eL_l, eL_r, eL_n, Option.toList_none, Option.toList_some, List.nil_append, List.cons_append, kkI, llI, nnI, rrI, jjI, kkJ, llJ, nnJ, rrJ, iiJ, zIIs, zJJs, nEF, nET, and_false, false_and, jmin, jmax, catS_n, catS_i, catS_r, catS_l, Nat.reduceLeDiff, j1eq1, n21, jt0, jt1, Bool.false_eq_true, Classical.not_not, true_or, or_true, false_or, or_false, true_imp_iff, false_imp_iff, not_true_eq_false, not_false_eq_true, jif0, jif1, jifb, ltT, ltF, leT, leF, eqT, eqF, jlt, jle, jeq, jlt0, jle0, jeq0, jge0, jgt0, jinB, jnat, clt, cle, ceq, cgt, cge, lI_add, lI_sub, lI_mul, jadd, jsub, jmul, jneg, jtol, b010, b011, pv_2t, Int.toNat_natCast, Option.some.injEq, exists_eq_left', if_true, if_false, M, A, e1, e2, vk]
      refine ih (k + 1) _ (by omega) (f.J (by omega)) ⟨fun i hi => ?_, ?_⟩ fun i hi => ?_
      · rw [zJ_sJ]
        by_cases c : 401 * a + i = 401 * b + k
        · have ea : a = b := by omega
          have ei : i = k := by omega
          rw [if_pos ⟨rfl, c⟩, ei]
        · rw [if_neg fun z => c z.2]
          exact va.1 i hi
      · rw [zJ_sJ, if_neg (by omega)]
        exact va.2
      · rw [zJ_sJ]
        by_cases c : i = k
        · rw [if_pos ⟨rfl, by omega⟩, c]
        · rw [if_neg (by omega)]
          exact hz i (by omega)
  refine vs_ok 2 ?_
  rw [show ((gRes 190).drop 0).take 2 = [.iconst 0, .istore 3] from rfl]
  simp (disch := omega) only [vs_iconst, vs_istore3n, vs_istore3i, vs_istore3r, vs_istore3l, vs_nil, gv_0, gv_1, gv_2, gv_3, pv_0, pv_1, va_rf_s, Nat.reduceDiv, Nat.reduceMod, Nat.reduceAdd, Nat.reduceMul, Int.reduceToNat, true_and, and_true, and_self, cP_eq, cP_ne, cP_lt, cP_ge, cP_gt, cP_le, eL_i, eL_l, eL_r, eL_n, Option.toList_none, Option.toList_some, List.nil_append, List.cons_append, kkI, llI, nnI, rrI, jjI, kkJ, llJ, nnJ, rrJ, iiJ, zIIs, zJJs, nEF, nET, and_false, false_and, jmin, jmax, catS_n, catS_i, catS_r, catS_l, Nat.reduceLeDiff, j1eq1, n21, jt0, jt1, Bool.false_eq_true, Classical.not_not, true_or, or_true, false_or, or_false, true_imp_iff, false_imp_iff, not_true_eq_false, not_false_eq_true, jif0, jif1, jifb, ltT, ltF, leT, leF, eqT, eqF, jlt, jle, jeq, jlt0, jle0, jeq0, jge0, jgt0, jinB, jnat, clt, cle, ceq, cgt, cge, lI_add, lI_sub, lI_mul, jadd, jsub, jmul, jneg, jtol, b010, b011, pv_2t, Int.toNat_natCast, Option.some.injEq, exists_eq_left', if_true, if_false]
  exact lp 401 0 h rfl slC.rf v fun i hi => absurd hi (by omega)
theorem t_M_constant {d : Nat} {h : Hp} {m s : Nat} {v : Int} {Q : Nat → Option Value → Hp → Prop} (hm : mO h m) (hs : s < 49) (hv : -200 ≤ v ∧ v ≤ 200) (hq : ∀ g, slC h g m s → slV g m s (nuV v) → Q 0 none g) : PR (d + 1) m_M_constant [.ref m, .int (iI v), .int (iI s)] h Q := by
  have M := hm.k
  show PW (d + 1) 191 0 [some (.ref m), some (.int (iI v)), some (.int (iI s))] [] h Q
  refine vs_ok 2 ?_
  rw [show ((gRes 191).drop 0).take 2 = [.aload 0, .iload 2] from rfl]
  simp (disch := omega) only [vs_aload0, vs_iload2, vs_nil, gv_0, gv_1, gv_2, gv_3, pv_0, pv_1, va_rf_s, Nat.reduceDiv, Nat.reduceMod, Nat.reduceAdd, Nat.reduceMul, Int.reduceToNat, true_and, and_true, and_self, cP_eq, cP_ne, cP_lt, cP_ge, cP_gt, cP_le, eL_i, eL_l, eL_r, eL_n, Option.toList_none, Option.toList_some, List.nil_append, List.cons_append, kkI, llI, nnI, rrI, jjI, kkJ, llJ, nnJ, rrJ, iiJ, zIIs, zJJs, nEF, nET, and_false, false_and, jmin, jmax, catS_n, catS_i, catS_r, catS_l, Nat.reduceLeDiff, j1eq1, n21, jt0, jt1, Bool.false_eq_true, Classical.not_not, true_or, or_true, false_or, or_false, true_imp_iff, false_imp_iff, not_true_eq_false, not_false_eq_true, jif0, jif1, jifb, ltT, ltF, leT, leF, eqT, eqF, jlt, jle, jeq, jlt0, jle0, jeq0, jge0, jgt0, jinB, jnat, clt, cle, ceq, cgt, cge, lI_add, lI_sub, lI_mul, jadd, jsub, jmul, jneg, jtol, b010, b011, pv_2t, Int.toNat_natCast, Option.some.injEq, exists_eq_left', if_true, if_false]
  refine PW.iv rfl rfl rfl M.1 M.2 (le_b rfl) (le_b rfl) ?_
  refine t_M_clear hm hs fun g f v0 => ⟨rfl, ⟨f.1.1.2.2.1, rfl⟩, ?_⟩
  have hg := hm.fi f.1
  have M1 := hg.k
  have A := hg.pool
  have A2 := hg.alls
  obtain ⟨k, hk⟩ : ∃ k : Nat, 200 + v = k := ⟨(200 + v).toNat, by omega⟩
  have e : (401 : Int) * (s : Int) + 200 + v = ((401 * s + k : Nat) : Int) := by omega
  refine vs_ok 17 ?_
  rw [show ((gRes 191).drop 3).take 17 = [.aload 0, .getfield 12052, .iconst 401, .iload 2, .imul, .iconst 200, .iadd, .iload 1, .iadd, .jsr_w 1, .lastore, .aload 0, .getfield 12062, .iload 2, .jsr_w 1, .lastore, .return_] from rfl]
  simp (disch := omega) only [vs_iadd, vs_imul, vs_iconst, vs_jsr_w, vs_getfield, vs_lastore, vs_return_, vs_aload0, vs_iload1, vs_iload2, vs_nil, gv_0, gv_1, gv_2, gv_3, pv_0, pv_1, va_rf_s, Nat.reduceDiv, Nat.reduceMod, Nat.reduceAdd, Nat.reduceMul, Int.reduceToNat, true_and, and_true, and_self, cP_eq, cP_ne, cP_lt, cP_ge, cP_gt, cP_le, eL_i, eL_l, eL_r, eL_n, Option.toList_none, Option.toList_some, List.nil_append, List.cons_append, kkI, llI, nnI, rrI, jjI, kkJ, llJ, nnJ, rrJ, iiJ, zIIs, zJJs, nEF, nET, and_false, false_and, jmin, jmax, catS_n, catS_i, catS_r, catS_l, Nat.reduceLeDiff, j1eq1, n21, jt0, jt1, Bool.false_eq_true, Classical.not_not, true_or, or_true, false_or, or_false, true_imp_iff, false_imp_iff, not_true_eq_false, not_false_eq_true, jif0, jif1, jifb, ltT, ltF, leT, leF, eqT, eqF, jlt, jle, jeq, jlt0, jle0, jeq0, jge0, jgt0, jinB, jnat, clt, cle, ceq, cgt, cge, lI_add, lI_sub, lI_mul, jadd, jsub, jmul, jneg, jtol, b010, b011, pv_2t, Int.toNat_natCast, Option.some.injEq, exists_eq_left', if_true, if_false, M1, A, A2, e, show gRc 191 = 0 from rfl]
  refine hq _ (f.J (j := 401 * s + k) (by omega)).A ⟨fun i hi => ?_, ?_⟩
  · rw [zJ_sJ, if_neg (by omega), zJ_sJ]
    show _ = lI (if (i : Int) - 200 = v then 1 else 0)
    by_cases c : i = k
    · rw [if_pos ⟨rfl, by omega⟩, if_pos (by omega)]
    · rw [if_neg (by omega), if_neg (by omega)]
      exact v0.1 i hi
  · rw [zJ_sJ, if_pos ⟨rfl, rfl⟩]
theorem t_M_turnOver {d : Nat} {h : Hp} {m s : Nat} {W : Int → Int} {tot : Int} {Q : Nat → Option Value → Hp → Prop} (hm : mO h m) (hs : s < 49) (v : slW h m s W tot) (hq : ∀ g, slC h g m s → slW g m s (fun n => W (-n)) tot → Q 0 none g) : PR d m_M_turnOver [.ref m, .int (iI s)] h Q := by
  show PW d 192 0 [some (.ref m), some (.int (iI s)), none, none, none] [] h Q
  have lp : ∀ (j k : Nat) (o : Option Value) (o2 : Option Value) (g : Hp), j + k = 200 → slC h g m s → (∀ i, i < 401 → zJ g (m + 2) (401 * s + i) = lI (if i < k ∨ 400 - i < k then W (200 - (i : Int)) else W ((i : Int) - 200))) → zJ g (m + 3) s = lI tot → PW d 192 2 [some (.ref m), some (.int (iI s)), some (.int (iI k)), o, o2] [] g Q := by
    intro j
    induction j with
    | zero =>
      intro k o o2 g hk f hz ht
      have e : k = 200 := by omega
      subst e
      refine vs_ok 3 ?_
      rw [show ((gRes 192).drop 2).take 3 = [.iload 2, .iconst 200, .if_icmp .ge 49] from rfl]
      simp (disch := omega) only [vs_iconst, vs_if_icmp, vs_iload2, vs_nil, gv_0, gv_1, gv_2, gv_3, pv_0, pv_1, va_rf_s, Nat.reduceDiv, Nat.reduceMod, Nat.reduceAdd, Nat.reduceMul, Int.reduceToNat, true_and, and_true, and_self, cP_eq, cP_ne, cP_lt, cP_ge, cP_gt, cP_le, eL_i, eL_l, eL_r, eL_n, Option.toList_none, Option.toList_some, List.nil_append, List.cons_append, kkI, llI, nnI, rrI, jjI, kkJ, llJ, nnJ, rrJ, iiJ, zIIs, zJJs, nEF, nET, and_false, false_and, jmin, jmax, catS_n, catS_i, catS_r, catS_l, Nat.reduceLeDiff, j1eq1, n21, jt0, jt1, Bool.false_eq_true, Classical.not_not, true_or, or_true, false_or, or_false, true_imp_iff, false_imp_iff, not_true_eq_false, not_false_eq_true, jif0, jif1, jifb, ltT, ltF, leT, leF, eqT, eqF, jlt, jle, jeq, jlt0, jle0, jeq0, jge0, jgt0, jinB, jnat, clt, cle, ceq, cgt, cge, lI_add, lI_sub, lI_mul, jadd, jsub, jmul, jneg, jtol, b010, b011, pv_2t, Int.toNat_natCast, Option.some.injEq, exists_eq_left', if_true, if_false]
      refine vs_ok 1 ?_
      rw [show ((gRes 192).drop 49).take 1 = [.return_] from rfl]
      simp (disch := omega) only [vs_return_, vs_nil, gv_0, gv_1, gv_2, gv_3, pv_0, pv_1, va_rf_s, Nat.reduceDiv, Nat.reduceMod, Nat.reduceAdd, Nat.reduceMul, Int.reduceToNat, true_and, and_true, and_self, cP_eq, cP_ne, cP_lt, cP_ge, cP_gt, cP_le, eL_i, eL_l, eL_r, eL_n, Option.toList_none, Option.toList_some, List.nil_append, List.cons_append, kkI, llI, nnI, rrI, jjI, kkJ, llJ, nnJ, rrJ, iiJ, zIIs, zJJs, nEF, nET, and_false, false_and, jmin, jmax, catS_n, catS_i, catS_r, catS_l, Nat.reduceLeDiff, j1eq1, n21, jt0, jt1, Bool.false_eq_true, Classical.not_not, true_or, or_true, false_or, or_false, true_imp_iff, false_imp_iff, not_true_eq_false, not_false_eq_true, jif0, jif1, jifb, ltT, ltF, leT, leF, eqT, eqF, jlt, jle, jeq, jlt0, jle0, jeq0, jge0, jgt0, jinB, jnat, clt, cle, ceq, cgt, cge, lI_add, lI_sub, lI_mul, jadd, jsub, jmul, jneg, jtol, b010, b011, pv_2t, Int.toNat_natCast, Option.some.injEq, exists_eq_left', if_true, if_false, show gRc 192 = 0 from rfl]
      refine hq _ f ⟨fun i hi => ?_, ht⟩
      rw [hz i hi]
      by_cases c : i < 200 ∨ 400 - i < 200
      · rw [if_pos c]
        exact congrArg (fun z => lI (W z)) (by omega)
      · rw [if_neg c]
        exact congrArg (fun z => lI (W z)) (by omega)
    | succ j ih =>
      intro k o o2 g hk f hz ht
      have hg := hm.fi f.1
      have M := hg.k
      have A := hg.pool
      have e1 : (401 : Int) * (s : Int) + (k : Int) = ((401 * s + k : Nat) : Int) := by omega
      have e2 : (401 : Int) * (s : Int) + 401 - 1 - (k : Int) = ((401 * s + (400 - k) : Nat) : Int) := by omega
      have v1 := hz k (by omega)
      have v2 := hz (400 - k) (by omega)
      rw [if_neg (by omega)] at v1 v2
      refine vs_ok 47 ?_
      rw [show ((gRes 192).drop 2).take 47 = [.iload 2, .iconst 200, .if_icmp .ge 49, .aload 0, .getfield 12052, .iconst 401, .iload 1, .imul, .iload 2, .iadd, .laload, .lstore 3, .aload 0, .getfield 12052, .iconst 401, .iload 1, .imul, .iload 2, .iadd, .aload 0, .getfield 12052, .iconst 401, .iload 1, .imul, .iconst 401, .iadd, .iconst 1, .isub, .iload 2, .isub, .laload, .lastore, .aload 0, .getfield 12052, .iconst 401, .iload 1, .imul, .iconst 401, .iadd, .iconst 1, .isub, .iload 2, .isub, .lload 3, .lastore, .iinc 2 1, .goto 2] from rfl]
      simp (disch := omega) only [vs_iadd, vs_isub, vs_imul, vs_iconst, vs_goto, vs_if_icmp, vs_getfield, vs_laload, vs_lastore, vs_aload0, vs_iload1, vs_iload2, vs_iinc2n, vs_iinc2i, vs_iinc2r, vs_iinc2l, vs_lload3, vs_lstore3n, vs_lstore3i, vs_lstore3r, vs_lstore3l, vs_nil, gv_0, gv_1, gv_2, gv_3, pv_0, pv_1, va_rf_s, Nat.reduceDiv, Nat.reduceMod, Nat.reduceAdd, Nat.reduceMul, Int.reduceToNat, true_and, and_true, and_self, cP_eq, cP_ne, cP_lt, cP_ge, cP_gt, cP_le, eL_i, eL_l, eL_r, eL_n, Option.toList_none, Option.toList_some, List.nil_append, List.cons_append, kkI, llI, nnI, rrI, jjI, kkJ, llJ, nnJ, rrJ, iiJ, zIIs, zJJs, nEF, nET, and_false, false_and, jmin, jmax, catS_n, catS_i, catS_r, catS_l, Nat.reduceLeDiff, j1eq1, n21, jt0, jt1, Bool.false_eq_true, Classical.not_not, true_or, or_true, false_or, or_false, true_imp_iff, false_imp_iff, not_true_eq_false, not_false_eq_true, jif0, jif1, jifb, ltT, ltF, leT, leF, eqT, eqF, jlt, jle, jeq, jlt0, jle0, jeq0, jge0, jgt0, jinB, jnat, clt, cle, ceq, cgt, cge, lI_add, lI_sub, lI_mul, jadd, jsub, jmul, jneg, jtol, b010, b011, pv_2t, Int.toNat_natCast, Option.some.injEq, exists_eq_left', if_true, if_false, M, A, e1, e2, v1, v2]
      refine ih (k + 1) _ _ _ (by omega) ((f.J (by omega)).J (by omega)) (fun i hi => ?_) ?_
      · rw [zJ_sJ, zJ_sJ]
        by_cases c : i = 400 - k
        · rw [if_pos ⟨rfl, by omega⟩, if_pos (by omega), c]
          exact congrArg (fun z => lI (W z)) (by omega)
        · rw [if_neg (by omega)]
          by_cases c2 : i = k
          · rw [if_pos ⟨rfl, by omega⟩, if_pos (by omega), c2]
            exact congrArg (fun z => lI (W z)) (by omega)
          · rw [if_neg (by omega), hz i hi]
            by_cases c3 : i < k ∨ 400 - i < k
            · rw [if_pos c3, if_pos (by omega)]
            · rw [if_neg c3, if_neg (by omega)]
      · rw [zJ_sJ, if_neg (by omega), zJ_sJ, if_neg (by omega)]
        exact ht
  refine vs_ok 2 ?_
  rw [show ((gRes 192).drop 0).take 2 = [.iconst 0, .istore 2] from rfl]
  simp (disch := omega) only [vs_iconst, vs_istore2n, vs_istore2i, vs_istore2r, vs_istore2l, vs_nil, gv_0, gv_1, gv_2, gv_3, pv_0, pv_1, va_rf_s, Nat.reduceDiv, Nat.reduceMod, Nat.reduceAdd, Nat.reduceMul, Int.reduceToNat, true_and, and_true, and_self, cP_eq, cP_ne, cP_lt, cP_ge, cP_gt, cP_le, eL_i, eL_l, eL_r, eL_n, Option.toList_none, Option.toList_some, List.nil_append, List.cons_append, kkI, llI, nnI, rrI, jjI, kkJ, llJ, nnJ, rrJ, iiJ, zIIs, zJJs, nEF, nET, and_false, false_and, jmin, jmax, catS_n, catS_i, catS_r, catS_l, Nat.reduceLeDiff, j1eq1, n21, jt0, jt1, Bool.false_eq_true, Classical.not_not, true_or, or_true, false_or, or_false, true_imp_iff, false_imp_iff, not_true_eq_false, not_false_eq_true, jif0, jif1, jifb, ltT, ltF, leT, leF, eqT, eqF, jlt, jle, jeq, jlt0, jle0, jeq0, jge0, jgt0, jinB, jnat, clt, cle, ceq, cgt, cge, lI_add, lI_sub, lI_mul, jadd, jsub, jmul, jneg, jtol, b010, b011, pv_2t, Int.toNat_natCast, Option.some.injEq, exists_eq_left', if_true, if_false]
  exact lp 200 0 none none h rfl slC.rf (fun i hi => by rw [if_neg (by omega)]; exact v.1 i hi) v.2
theorem t_M_lowest {d : Nat} {h : Hp} {m s : Nat} {v : RowVal} {Q : Nat → Option Value → Hp → Prop} (hm : mO h m) (hs : s < 49) (hv : slV h m s v) (g : gV v) (hq : Q 0 (some (.int (iI v.1))) h) : PR d m_M_lowest [.ref m, .int (iI s)] h Q := by
  have M := hm.k
  have A := hm.pool
  have g1 := g.1
  show PW d 215 0 [some (.ref m), some (.int (iI s)), none] [] h Q
  have lp : ∀ (j k : Nat), (j : Int) + k = v.1 + 200 → PW d 215 2 [some (.ref m), some (.int (iI s)), some (.int (iI k))] [] h Q := by
    intro j
    induction j with
    | zero =>
      intro k hk
      have e1 : (401 : Int) * (s : Int) + (k : Int) = ((401 * s + k : Nat) : Int) := by omega
      have vk := hv.1 k (by omega)
      have p := g.2.2.2.1.1
      have l := g.le v.1
      rw [show (k : Int) - 200 = v.1 by omega] at vk
      refine vs_ok 11 ?_
      rw [show ((gRes 215).drop 2).take 11 = [.aload 0, .getfield 12052, .iconst 401, .iload 1, .imul, .iload 2, .iadd, .laload, .jsr_w 0, .lcmp, .ifCond .ne 15] from rfl]
      simp (disch := omega) only [vs_iadd, vs_imul, vs_lcmp, vs_iconst, vs_jsr_w, vs_ifCond, vs_getfield, vs_laload, vs_aload0, vs_iload1, vs_iload2, vs_nil, gv_0, gv_1, gv_2, gv_3, pv_0, pv_1, va_rf_s, Nat.reduceDiv, Nat.reduceMod, Nat.reduceAdd, Nat.reduceMul, Int.reduceToNat, true_and, and_true, and_self, cP_eq, cP_ne, cP_lt, cP_ge, cP_gt, cP_le, eL_i, eL_l, eL_r, eL_n, Option.toList_none, Option.toList_some, List.nil_append, List.cons_append, kkI, llI, nnI, rrI, jjI, kkJ, llJ, nnJ, rrJ, iiJ, zIIs, zJJs, nEF, nET, and_false, false_and, jmin, jmax, catS_n, catS_i, catS_r, catS_l, Nat.reduceLeDiff, j1eq1, n21, jt0, jt1, Bool.false_eq_true, Classical.not_not, true_or, or_true, false_or, or_false, true_imp_iff, false_imp_iff, not_true_eq_false, not_false_eq_true, jif0, jif1, jifb, ltT, ltF, leT, leF, eqT, eqF, jlt, jle, jeq, jlt0, jle0, jeq0, jge0, jgt0, jinB, jnat, clt, cle, ceq, cgt, cge, lI_add, lI_sub, lI_mul, jadd, jsub, jmul, jneg, jtol, b010, b011, pv_2t, Int.toNat_natCast, Option.some.injEq, exists_eq_left', if_true, if_false, M, A, e1, vk]
      refine vs_ok 4 ?_
      rw [show ((gRes 215).drop 15).take 4 = [.iload 2, .iconst 200, .isub, .ireturn] from rfl]
      simp (disch := omega) only [vs_isub, vs_iconst, vs_ireturn, vs_iload2, vs_nil, gv_0, gv_1, gv_2, gv_3, pv_0, pv_1, va_rf_s, Nat.reduceDiv, Nat.reduceMod, Nat.reduceAdd, Nat.reduceMul, Int.reduceToNat, true_and, and_true, and_self, cP_eq, cP_ne, cP_lt, cP_ge, cP_gt, cP_le, eL_i, eL_l, eL_r, eL_n, Option.toList_none, Option.toList_some, List.nil_append, List.cons_append, kkI, llI, nnI, rrI, jjI, kkJ, llJ, nnJ, rrJ, iiJ, zIIs, zJJs, nEF, nET, and_false, false_and, jmin, jmax, catS_n, catS_i, catS_r, catS_l, Nat.reduceLeDiff, j1eq1, n21, jt0, jt1, Bool.false_eq_true, Classical.not_not, true_or, or_true, false_or, or_false, true_imp_iff, false_imp_iff, not_true_eq_false, not_false_eq_true, jif0, jif1, jifb, ltT, ltF, leT, leF, eqT, eqF, jlt, jle, jeq, jlt0, jle0, jeq0, jge0, jgt0, jinB, jnat, clt, cle, ceq, cgt, cge, lI_add, lI_sub, lI_mul, jadd, jsub, jmul, jneg, jtol, b010, b011, pv_2t, Int.toNat_natCast, Option.some.injEq, exists_eq_left', if_true, if_false, show gRc 215 = 1 from rfl]
      rw [show (k : Int) - 200 = v.1 by omega]
      exact hq
    | succ j ih =>
      intro k hk
      have e1 : (401 : Int) * (s : Int) + (k : Int) = ((401 * s + k : Nat) : Int) := by omega
      have vk := hv.1 k (by omega)
      rw [g.2.2.1 _ (by omega)] at vk
      refine vs_ok 13 ?_
      rw [show ((gRes 215).drop 2).take 13 = [.aload 0, .getfield 12052, .iconst 401, .iload 1, .imul, .iload 2, .iadd, .laload, .jsr_w 0, .lcmp, .ifCond .ne 15, .iinc 2 1, .goto 2] from rfl]
      simp (disch := omega) only [vs_iadd, vs_imul, vs_lcmp, vs_iconst, vs_jsr_w, vs_goto, vs_ifCond, vs_getfield, vs_laload, vs_aload0, vs_iload1, vs_iload2, vs_iinc2n, vs_iinc2i, vs_iinc2r, vs_iinc2l, vs_nil, gv_0, gv_1, gv_2, gv_3, pv_0, pv_1, va_rf_s, Nat.reduceDiv, Nat.reduceMod, Nat.reduceAdd, Nat.reduceMul, Int.reduceToNat, true_and, and_true, and_self, cP_eq, cP_ne, cP_lt, cP_ge, cP_gt, cP_le, eL_i, eL_l, eL_r, eL_n, Option.toList_none, Option.toList_some, List.nil_append, List.cons_append, kkI, llI, nnI, rrI, jjI, kkJ, llJ, nnJ, rrJ, iiJ, zIIs, zJJs, nEF, nET, and_false, false_and, jmin, jmax, catS_n, catS_i, catS_r, catS_l, Nat.reduceLeDiff, j1eq1, n21, jt0, jt1, Bool.false_eq_true, Classical.not_not, true_or, or_true, false_or, or_false, true_imp_iff, false_imp_iff, not_true_eq_false, not_false_eq_true, jif0, jif1, jifb, ltT, ltF, leT, leF, eqT, eqF, jlt, jle, jeq, jlt0, jle0, jeq0, jge0, jgt0, jinB, jnat, clt, cle, ceq, cgt, cge, lI_add, lI_sub, lI_mul, jadd, jsub, jmul, jneg, jtol, b010, b011, pv_2t, Int.toNat_natCast, Option.some.injEq, exists_eq_left', if_true, if_false, M, A, e1, vk]
      exact ih (k + 1) (by omega)
  refine vs_ok 2 ?_
  rw [show ((gRes 215).drop 0).take 2 = [.iconst 0, .istore 2] from rfl]
  simp (disch := omega) only [vs_iconst, vs_istore2n, vs_istore2i, vs_istore2r, vs_istore2l, vs_nil, gv_0, gv_1, gv_2, gv_3, pv_0, pv_1, va_rf_s, Nat.reduceDiv, Nat.reduceMod, Nat.reduceAdd, Nat.reduceMul, Int.reduceToNat, true_and, and_true, and_self, cP_eq, cP_ne, cP_lt, cP_ge, cP_gt, cP_le, eL_i, eL_l, eL_r, eL_n, Option.toList_none, Option.toList_some, List.nil_append, List.cons_append, kkI, llI, nnI, rrI, jjI, kkJ, llJ, nnJ, rrJ, iiJ, zIIs, zJJs, nEF, nET, and_false, false_and, jmin, jmax, catS_n, catS_i, catS_r, catS_l, Nat.reduceLeDiff, j1eq1, n21, jt0, jt1, Bool.false_eq_true, Classical.not_not, true_or, or_true, false_or, or_false, true_imp_iff, false_imp_iff, not_true_eq_false, not_false_eq_true, jif0, jif1, jifb, ltT, ltF, leT, leF, eqT, eqF, jlt, jle, jeq, jlt0, jle0, jeq0, jge0, jgt0, jinB, jnat, clt, cle, ceq, cgt, cge, lI_add, lI_sub, lI_mul, jadd, jsub, jmul, jneg, jtol, b010, b011, pv_2t, Int.toNat_natCast, Option.some.injEq, exists_eq_left', if_true, if_false]
  exact lp (v.1 + 200).toNat 0 (by omega)
theorem t_M_highest {d : Nat} {h : Hp} {m s : Nat} {v : RowVal} {Q : Nat → Option Value → Hp → Prop} (hm : mO h m) (hs : s < 49) (hv : slV h m s v) (g : gV v) (hq : Q 0 (some (.int (iI v.2.1))) h) : PR d m_M_highest [.ref m, .int (iI s)] h Q := by
  have M := hm.k
  have A := hm.pool
  have g1 := g.1
  show PW d 216 0 [some (.ref m), some (.int (iI s)), none] [] h Q
  have lp : ∀ (j k : Nat), (k : Int) = v.2.1 + 200 + j → k ≤ 400 → PW d 216 2 [some (.ref m), some (.int (iI s)), some (.int (iI k))] [] h Q := by
    intro j
    induction j with
    | zero =>
      intro k hk h4
      have e1 : (401 : Int) * (s : Int) + (k : Int) = ((401 * s + k : Nat) : Int) := by omega
      have vk := hv.1 k (by omega)
      have p := g.2.2.2.1.2
      have l := g.le v.2.1
      rw [show (k : Int) - 200 = v.2.1 by omega] at vk
      refine vs_ok 11 ?_
      rw [show ((gRes 216).drop 2).take 11 = [.aload 0, .getfield 12052, .iconst 401, .iload 1, .imul, .iload 2, .iadd, .laload, .jsr_w 0, .lcmp, .ifCond .ne 15] from rfl]
      simp (disch := omega) only [vs_iadd, vs_imul, vs_lcmp, vs_iconst, vs_jsr_w, vs_ifCond, vs_getfield, vs_laload, vs_aload0, vs_iload1, vs_iload2, vs_nil, gv_0, gv_1, gv_2, gv_3, pv_0, pv_1, va_rf_s, Nat.reduceDiv, Nat.reduceMod, Nat.reduceAdd, Nat.reduceMul, Int.reduceToNat, true_and, and_true, and_self, cP_eq, cP_ne, cP_lt, cP_ge, cP_gt, cP_le, eL_i, eL_l, eL_r, eL_n, Option.toList_none, Option.toList_some, List.nil_append, List.cons_append, kkI, llI, nnI, rrI, jjI, kkJ, llJ, nnJ, rrJ, iiJ, zIIs, zJJs, nEF, nET, and_false, false_and, jmin, jmax, catS_n, catS_i, catS_r, catS_l, Nat.reduceLeDiff, j1eq1, n21, jt0, jt1, Bool.false_eq_true, Classical.not_not, true_or, or_true, false_or, or_false, true_imp_iff, false_imp_iff, not_true_eq_false, not_false_eq_true, jif0, jif1, jifb, ltT, ltF, leT, leF, eqT, eqF, jlt, jle, jeq, jlt0, jle0, jeq0, jge0, jgt0, jinB, jnat, clt, cle, ceq, cgt, cge, lI_add, lI_sub, lI_mul, jadd, jsub, jmul, jneg, jtol, b010, b011, pv_2t, Int.toNat_natCast, Option.some.injEq, exists_eq_left', if_true, if_false, M, A, e1, vk]
      refine vs_ok 4 ?_
      rw [show ((gRes 216).drop 15).take 4 = [.iload 2, .iconst 200, .isub, .ireturn] from rfl]
      simp (disch := omega) only [vs_isub, vs_iconst, vs_ireturn, vs_iload2, vs_nil, gv_0, gv_1, gv_2, gv_3, pv_0, pv_1, va_rf_s, Nat.reduceDiv, Nat.reduceMod, Nat.reduceAdd, Nat.reduceMul, Int.reduceToNat, true_and, and_true, and_self, cP_eq, cP_ne, cP_lt, cP_ge, cP_gt, cP_le, eL_i, eL_l, eL_r, eL_n, Option.toList_none, Option.toList_some, List.nil_append, List.cons_append, kkI, llI, nnI, rrI, jjI, kkJ, llJ, nnJ, rrJ, iiJ, zIIs, zJJs, nEF, nET, and_false, false_and, jmin, jmax, catS_n, catS_i, catS_r, catS_l, Nat.reduceLeDiff, j1eq1, n21, jt0, jt1, Bool.false_eq_true, Classical.not_not, true_or, or_true, false_or, or_false, true_imp_iff, false_imp_iff, not_true_eq_false, not_false_eq_true, jif0, jif1, jifb, ltT, ltF, leT, leF, eqT, eqF, jlt, jle, jeq, jlt0, jle0, jeq0, jge0, jgt0, jinB, jnat, clt, cle, ceq, cgt, cge, lI_add, lI_sub, lI_mul, jadd, jsub, jmul, jneg, jtol, b010, b011, pv_2t, Int.toNat_natCast, Option.some.injEq, exists_eq_left', if_true, if_false, show gRc 216 = 1 from rfl]
      rw [show (k : Int) - 200 = v.2.1 by omega]
      exact hq
    | succ j ih =>
      intro k hk h4
      have e1 : (401 : Int) * (s : Int) + (k : Int) = ((401 * s + k : Nat) : Int) := by omega
      have vk := hv.1 k (by omega)
      rw [g.2.2.1 _ (by omega)] at vk
      have e2 : (k : Int) + -1 = ((k - 1 : Nat) : Int) := by omega
      refine vs_ok 13 ?_
      rw [show ((gRes 216).drop 2).take 13 = [.aload 0, .getfield 12052, .iconst 401, .iload 1, .imul, .iload 2, .iadd, .laload, .jsr_w 0, .lcmp, .ifCond .ne 15, .iinc 2 (-1), .goto 2] from rfl]
      simp (disch := omega) only [vs_iadd, vs_imul, vs_lcmp, vs_iconst, vs_jsr_w, vs_goto, vs_ifCond, vs_getfield, vs_laload, vs_aload0, vs_iload1, vs_iload2, vs_iinc2n, vs_iinc2i, vs_iinc2r, vs_iinc2l, vs_nil, gv_0, gv_1, gv_2, gv_3, pv_0, pv_1, va_rf_s, Nat.reduceDiv, Nat.reduceMod, Nat.reduceAdd, Nat.reduceMul, Int.reduceToNat, true_and, and_true, and_self, cP_eq, cP_ne, cP_lt, cP_ge, cP_gt, cP_le, eL_i, eL_l, eL_r, eL_n, Option.toList_none, Option.toList_some, List.nil_append, List.cons_append, kkI, llI, nnI, rrI, jjI, kkJ, llJ, nnJ, rrJ, iiJ, zIIs, zJJs, nEF, nET, and_false, false_and, jmin, jmax, catS_n, catS_i, catS_r, catS_l, Nat.reduceLeDiff, j1eq1, n21, jt0, jt1, Bool.false_eq_true, Classical.not_not, true_or, or_true, false_or, or_false, true_imp_iff, false_imp_iff, not_true_eq_false, not_false_eq_true, jif0, jif1, jifb, ltT, ltF, leT, leF, eqT, eqF, jlt, jle, jeq, jlt0, jle0, jeq0, jge0, jgt0, jinB, jnat, clt, cle, ceq, cgt, cge, lI_add, lI_sub, lI_mul, jadd, jsub, jmul, jneg, jtol, b010, b011, pv_2t, Int.toNat_natCast, Option.some.injEq, exists_eq_left', if_true, if_false, M, A, e1, vk, e2]
      exact ih (k - 1) (by omega) (by omega)
  refine vs_ok 2 ?_
  rw [show ((gRes 216).drop 0).take 2 = [.iconst 400, .istore 2] from rfl]
  simp (disch := omega) only [vs_iconst, vs_istore2n, vs_istore2i, vs_istore2r, vs_istore2l, vs_nil, gv_0, gv_1, gv_2, gv_3, pv_0, pv_1, va_rf_s, Nat.reduceDiv, Nat.reduceMod, Nat.reduceAdd, Nat.reduceMul, Int.reduceToNat, true_and, and_true, and_self, cP_eq, cP_ne, cP_lt, cP_ge, cP_gt, cP_le, eL_i, eL_l, eL_r, eL_n, Option.toList_none, Option.toList_some, List.nil_append, List.cons_append, kkI, llI, nnI, rrI, jjI, kkJ, llJ, nnJ, rrJ, iiJ, zIIs, zJJs, nEF, nET, and_false, false_and, jmin, jmax, catS_n, catS_i, catS_r, catS_l, Nat.reduceLeDiff, j1eq1, n21, jt0, jt1, Bool.false_eq_true, Classical.not_not, true_or, or_true, false_or, or_false, true_imp_iff, false_imp_iff, not_true_eq_false, not_false_eq_true, jif0, jif1, jifb, ltT, ltF, leT, leF, eqT, eqF, jlt, jle, jeq, jlt0, jle0, jeq0, jge0, jgt0, jinB, jnat, clt, cle, ceq, cgt, cge, lI_add, lI_sub, lI_mul, jadd, jsub, jmul, jneg, jtol, b010, b011, pv_2t, Int.toNat_natCast, Option.some.injEq, exists_eq_left', if_true, if_false]
  exact lp (200 - v.2.1).toNat 400 (by omega) (by omega)
