/-! Game: gather, readSigns, shareOf -/
abbrev gaL : List (Nat × Nat) := [(14, 7), (14, 49), (15, 7), (14, 12)]
theorem gaF {h : Hp} {w : Nat} (ho : objA h w 2 gaL) : (zK h w = 2 ∧ w < zN h) ∧ (zR h w 0 = some (w + 1) ∧ zK h (w + 1) = 14 ∧ w + 1 < zN h ∧ zL h (w + 1) = 7) ∧ (zR h w 1 = some (w + 2) ∧ zK h (w + 2) = 14 ∧ w + 2 < zN h ∧ zL h (w + 2) = 49) ∧ (zR h w 2 = some (w + 3) ∧ zK h (w + 3) = 15 ∧ w + 3 < zN h ∧ zL h (w + 3) = 7) ∧ (zR h w 3 = some (w + 4) ∧ zK h (w + 4) = 14 ∧ w + 4 < zN h ∧ zL h (w + 4) = 12) :=
  ⟨⟨ho.1, by have := ho.2.1; omega⟩, ho.e 0 (14, 7) rfl, ho.e 1 (14, 49) rfl, ho.e 2 (15, 7) rfl, ho.e 3 (14, 12) rfl⟩
theorem t_shareOf {d : Nat} {h : Hp} {x : Nat} {k : Int} {sh : Nat → Int} {Q : Nat → Option Value → Hp → Prop} (ho : objA h x 2 gaL) (hk : i32 k) (hs : ∀ i, i < 12 → zI h (x + 4) i = iI (sh i)) (hq : Q 0 (some (.int (iI (if 0 ≤ k ∧ k < 12 then sh k.toNat else 0)))) h) : PR d m_Game_shareOf [.ref x, .int (iI k)] h Q := by
  have N := gaF ho
  have hk1 := hk.1
  have hk2 := hk.2
  show PW d 32 0 [some (.ref x), some (.int (iI k))] [] h Q
  have no : ¬ (0 ≤ k ∧ k < 12) → PW d 32 7 [some (.ref x), some (.int (iI k))] [] h Q := fun c => by
    rw [if_neg c] at hq
    refine vs_ok 2 ?_
    rw [show ((gRes 32).drop 7).take 2 = [.iconst 0, .goto 13] from rfl]
    simp (disch := omega) only [vs_iconst, vs_goto, vs_nil, gv_0, gv_1, gv_2, gv_3, pv_0, pv_1, va_rf_s, Nat.reduceDiv, Nat.reduceMod, Nat.reduceAdd, Nat.reduceMul, Int.reduceToNat, true_and, and_true, and_self, cP_eq, cP_ne, cP_lt, cP_ge, cP_gt, cP_le, eL_i, eL_l, eL_r, eL_n, Option.toList_none, Option.toList_some, List.nil_append, List.cons_append, kkI, llI, nnI, rrI, jjI, kkJ, llJ, nnJ, rrJ, iiJ, zIIs, zJJs, nEF, nET, and_false, false_and, jmin, jmax, catS_n, catS_i, catS_r, catS_l, Nat.reduceLeDiff, j1eq1, n21, jt0, jt1, Bool.false_eq_true, Classical.not_not, true_or, or_true, false_or, or_false, true_imp_iff, false_imp_iff, not_true_eq_false, not_false_eq_true, jif0, jif1, jifb, ltT, ltF, leT, leF, eqT, eqF, jlt, jle, jeq, jlt0, jle0, jeq0, jge0, jgt0, jinB, jnat, clt, cle, ceq, cgt, cge, lI_add, lI_sub, lI_mul, jadd, jsub, jmul, jneg, jtol, b010, b011, pv_2t, Int.toNat_natCast, Option.some.injEq, exists_eq_left', if_true, if_false]
    refine vs_ok 1 ?_
    rw [show ((gRes 32).drop 13).take 1 = [.ireturn] from rfl]
    simp (disch := omega) only [vs_ireturn, vs_nil, gv_0, gv_1, gv_2, gv_3, pv_0, pv_1, va_rf_s, Nat.reduceDiv, Nat.reduceMod, Nat.reduceAdd, Nat.reduceMul, Int.reduceToNat, true_and, and_true, and_self, cP_eq, cP_ne, cP_lt, cP_ge, cP_gt, cP_le, eL_i, eL_l, eL_r, eL_n, Option.toList_none, Option.toList_some, List.nil_append, List.cons_append, kkI, llI, nnI, rrI, jjI, kkJ, llJ, nnJ, rrJ, iiJ, zIIs, zJJs, nEF, nET, and_false, false_and, jmin, jmax, catS_n, catS_i, catS_r, catS_l, Nat.reduceLeDiff, j1eq1, n21, jt0, jt1, Bool.false_eq_true, Classical.not_not, true_or, or_true, false_or, or_false, true_imp_iff, false_imp_iff, not_true_eq_false, not_false_eq_true, jif0, jif1, jifb, ltT, ltF, leT, leF, eqT, eqF, jlt, jle, jeq, jlt0, jle0, jeq0, jge0, jgt0, jinB, jnat, clt, cle, ceq, cgt, cge, lI_add, lI_sub, lI_mul, jadd, jsub, jmul, jneg, jtol, b010, b011, pv_2t, Int.toNat_natCast, Option.some.injEq, exists_eq_left', if_true, if_false, show gRc 32 = 1 from rfl]
    exact hq
  by_cases c1 : k < 0
  · refine vs_ok 2 ?_
    rw [show ((gRes 32).drop 0).take 2 = [.iload 1, .ifCond .lt 7] from rfl]
    simp (disch := omega) only [vs_ifCond, vs_iload1, vs_nil, gv_0, gv_1, gv_2, gv_3, pv_0, pv_1, va_rf_s, Nat.reduceDiv, Nat.reduceMod, Nat.reduceAdd, Nat.reduceMul, Int.reduceToNat, true_and, and_true, and_self, cP_eq, cP_ne, cP_lt, cP_ge, cP_gt, cP_le, eL_i, eL_l, eL_r, eL_n, Option.toList_none, Option.toList_some, List.nil_append, List.cons_append, kkI, llI, nnI, rrI, jjI, kkJ, llJ, nnJ, rrJ, iiJ, zIIs, zJJs, nEF, nET, and_false, false_and, jmin, jmax, catS_n, catS_i, catS_r, catS_l, Nat.reduceLeDiff, j1eq1, n21, jt0, jt1, Bool.false_eq_true, Classical.not_not, true_or, or_true, false_or, or_false, true_imp_iff, false_imp_iff, not_true_eq_false, not_false_eq_true, jif0, jif1, jifb, ltT, ltF, leT, leF, eqT, eqF, jlt, jle, jeq, jlt0, jle0, jeq0, jge0, jgt0, jinB, jnat, clt, cle, ceq, cgt, cge, lI_add, lI_sub, lI_mul, jadd, jsub, jmul, jneg, jtol, b010, b011, pv_2t, Int.toNat_natCast, Option.some.injEq, exists_eq_left', if_true, if_false]
    exact no (by omega)
  · by_cases c2 : k < 12
    · rw [if_pos ⟨by omega, c2⟩] at hq
      refine vs_ok 9 ?_
      rw [show ((gRes 32).drop 0).take 9 = [.iload 1, .ifCond .lt 7, .iload 1, .aload 0, .getfield 2032, .arraylength, .if_icmp .lt 9, .iconst 0, .goto 13] from rfl]
      simp (disch := omega) only [vs_iconst, vs_goto, vs_if_icmp, vs_ifCond, vs_getfield, vs_arraylength, vs_aload0, vs_iload1, vs_nil, gv_0, gv_1, gv_2, gv_3, pv_0, pv_1, va_rf_s, Nat.reduceDiv, Nat.reduceMod, Nat.reduceAdd, Nat.reduceMul, Int.reduceToNat, true_and, and_true, and_self, cP_eq, cP_ne, cP_lt, cP_ge, cP_gt, cP_le, eL_i, eL_l, eL_r, eL_n, Option.toList_none, Option.toList_some, List.nil_append, List.cons_append, kkI, llI, nnI, rrI, jjI, kkJ, llJ, nnJ, rrJ, iiJ, zIIs, zJJs, nEF, nET, and_false, false_and, jmin, jmax, catS_n, catS_i, catS_r, catS_l, Nat.reduceLeDiff, j1eq1, n21, jt0, jt1, Bool.false_eq_true, Classical.not_not, true_or, or_true, false_or, or_false, true_imp_iff, false_imp_iff, not_true_eq_false, not_false_eq_true, jif0, jif1, jifb, ltT, ltF, leT, leF, eqT, eqF, jlt, jle, jeq, jlt0, jle0, jeq0, jge0, jgt0, jinB, jnat, clt, cle, ceq, cgt, cge, lI_add, lI_sub, lI_mul, jadd, jsub, jmul, jneg, jtol, b010, b011, pv_2t, Int.toNat_natCast, Option.some.injEq, exists_eq_left', if_true, if_false, N, or_true, true_or, of12]
      refine vs_ok 5 ?_
      rw [show ((gRes 32).drop 9).take 5 = [.aload 0, .getfield 2032, .iload 1, .iaload, .ireturn] from rfl]
      simp (disch := omega) only [vs_getfield, vs_iaload, vs_ireturn, vs_aload0, vs_iload1, vs_nil, gv_0, gv_1, gv_2, gv_3, pv_0, pv_1, va_rf_s, Nat.reduceDiv, Nat.reduceMod, Nat.reduceAdd, Nat.reduceMul, Int.reduceToNat, true_and, and_true, and_self, cP_eq, cP_ne, cP_lt, cP_ge, cP_gt, cP_le, eL_i, eL_l, eL_r, eL_n, Option.toList_none, Option.toList_some, List.nil_append, List.cons_append, kkI, llI, nnI, rrI, jjI, kkJ, llJ, nnJ, rrJ, iiJ, zIIs, zJJs, nEF, nET, and_false, false_and, jmin, jmax, catS_n, catS_i, catS_r, catS_l, Nat.reduceLeDiff, j1eq1, n21, jt0, jt1, Bool.false_eq_true, Classical.not_not, true_or, or_true, false_or, or_false, true_imp_iff, false_imp_iff, not_true_eq_false, not_false_eq_true, jif0, jif1, jifb, ltT, ltF, leT, leF, eqT, eqF, jlt, jle, jeq, jlt0, jle0, jeq0, jge0, jgt0, jinB, jnat, clt, cle, ceq, cgt, cge, lI_add, lI_sub, lI_mul, jadd, jsub, jmul, jneg, jtol, b010, b011, pv_2t, Int.toNat_natCast, Option.some.injEq, exists_eq_left', if_true, if_false, N, hs k.toNat (by omega), show gRc 32 = 1 from rfl]
      exact hq
    · refine vs_ok 7 ?_
      rw [show ((gRes 32).drop 0).take 7 = [.iload 1, .ifCond .lt 7, .iload 1, .aload 0, .getfield 2032, .arraylength, .if_icmp .lt 9] from rfl]
      simp (disch := omega) only [vs_if_icmp, vs_ifCond, vs_getfield, vs_arraylength, vs_aload0, vs_iload1, vs_nil, gv_0, gv_1, gv_2, gv_3, pv_0, pv_1, va_rf_s, Nat.reduceDiv, Nat.reduceMod, Nat.reduceAdd, Nat.reduceMul, Int.reduceToNat, true_and, and_true, and_self, cP_eq, cP_ne, cP_lt, cP_ge, cP_gt, cP_le, eL_i, eL_l, eL_r, eL_n, Option.toList_none, Option.toList_some, List.nil_append, List.cons_append, kkI, llI, nnI, rrI, jjI, kkJ, llJ, nnJ, rrJ, iiJ, zIIs, zJJs, nEF, nET, and_false, false_and, jmin, jmax, catS_n, catS_i, catS_r, catS_l, Nat.reduceLeDiff, j1eq1, n21, jt0, jt1, Bool.false_eq_true, Classical.not_not, true_or, or_true, false_or, or_false, true_imp_iff, false_imp_iff, not_true_eq_false, not_false_eq_true, jif0, jif1, jifb, ltT, ltF, leT, leF, eqT, eqF, jlt, jle, jeq, jlt0, jle0, jeq0, jge0, jgt0, jinB, jnat, clt, cle, ceq, cgt, cge, lI_add, lI_sub, lI_mul, jadd, jsub, jmul, jneg, jtol, b010, b011, pv_2t, Int.toNat_natCast, Option.some.injEq, exists_eq_left', if_true, if_false, N, or_true, true_or, of12]
      exact no (by omega)
/-- the bits of set below k, rising -/
def mbL (set : Nat) : Nat → List Nat
  | 0 => []
  | k + 1 => if set.testBit k = true then mbL set k ++ [k] else mbL set k
theorem mbL_len (set : Nat) : ∀ k, (mbL set k).length = pcN set k
  | 0 => rfl
  | k + 1 => by
    have h1 := mbL_len set k
    have h2 : (set >>> k) % 2 = if set.testBit k = true then 1 else 0 := by
      rw [Nat.shiftRight_eq_div_pow, tb_mod]
    show (if set.testBit k = true then mbL set k ++ [k] else mbL set k).length = pcN set k + (set >>> k) % 2
    rw [h2]
    split
    · rw [List.length_append, h1]
      rfl
    · rw [h1]
      rfl
theorem pcN_mono (set : Nat) : ∀ {k m : Nat}, k ≤ m → pcN set k ≤ pcN set m := fun {k m} h => by
  induction m with
  | zero => rw [show k = 0 by omega]; exact Nat.le_refl _
  | succ m ih =>
    by_cases c : k = m + 1
    · rw [c]; exact Nat.le_refl _
    · have := ih (by omega)
      show _ ≤ pcN set m + (set >>> m) % 2
      omega
theorem mbL_mem {set i v : Nat} : ∀ {k : Nat}, (mbL set k)[i]? = some v → v < k ∧ set.testBit v = true
  | 0, h => by simp [mbL] at h
  | k + 1, h => by
    unfold mbL at h
    by_cases c : set.testBit k = true
    · rw [if_pos c] at h
      by_cases y : i < (mbL set k).length
      · rw [List.getElem?_append_left y] at h
        have := mbL_mem h
        exact ⟨by omega, this.2⟩
      · rw [List.getElem?_append_right (by omega)] at h
        have h1 : i - (mbL set k).length = 0 := by
          have := (List.getElem?_eq_some_iff.mp h).1
          simp at this
          omega
        rw [h1] at h
        have : k = v := by simpa using h
        rw [← this]
        exact ⟨by omega, c⟩
    · rw [if_neg c] at h
      have := mbL_mem h
      exact ⟨by omega, this.2⟩
abbrev mbF (set i : Nat) : Nat := ((mbL set 12)[i]?).getD 0
theorem mbF_lt {set nm i : Nat} (hs : set < 2 ^ nm) (hi : i < pcN set 12) : mbF set i < nm ∧ mbF set i < 12 := by
  unfold mbF
  have hl : i < (mbL set 12).length := by rw [mbL_len]; exact hi
  rw [List.getElem?_eq_getElem hl, Option.getD_some]
  obtain ⟨h1, h2⟩ := mbL_mem (List.getElem?_eq_getElem hl)
  refine ⟨?_, h1⟩
  by_cases c : (mbL set 12)[i] < nm
  · exact c
  · rw [Nat.testBit_lt_two_pow (Nat.lt_of_lt_of_le hs (Nat.pow_le_pow_right (by omega) (by omega)))] at h2
    cases h2
theorem t_gather {d : Nat} {h : Hp} {x set : Nat} {Q : Nat → Option Value → Hp → Prop} (ho : objA h x 2 gaL) (hs : set < 4096) (hp : pcN set 12 ≤ 7) (hq : ∀ h', fi (fun q => q = x ∨ q = x + 1) h h' → zI h' x 4 = iI (pcN set 12) → (∀ i, i < pcN set 12 → zI h' (x + 1) i = iI (mbF set i)) → Q 0 none h') : PR d m_Game_gather [.ref x, .int (iI set)] h Q := by
  show PW d 26 0 [some (.ref x), some (.int (iI set)), none] [] h Q
  have hl12 := mbL_len set 12
  have fin : ∀ (k : Nat) (g : Hp) (o : Option Value), fi (fun q => q = x ∨ q = x + 1) h g → pcN set k = pcN set 12 → zI g x 4 = iI (pcN set k) → (∀ i v, (mbL set 12)[i]? = some v → zI g (x + 1) i = iI (v : Nat)) → PW d 26 33 [some (.ref x), some (.int (iI set)), o] [] g Q := fun k g o f e h4 hm => by
    refine vs_ok 1 ?_
    rw [show ((gRes 26).drop 33).take 1 = [.return_] from rfl]
    simp (disch := omega) only [vs_return_, vs_nil, gv_0, gv_1, gv_2, gv_3, pv_0, pv_1, va_rf_s, Nat.reduceDiv, Nat.reduceMod, Nat.reduceAdd, Nat.reduceMul, Int.reduceToNat, true_and, and_true, and_self, cP_eq, cP_ne, cP_lt, cP_ge, cP_gt, cP_le, eL_i, eL_l, eL_r, eL_n, Option.toList_none, Option.toList_some, List.nil_append, List.cons_append, kkI, llI, nnI, rrI, jjI, kkJ, llJ, nnJ, rrJ, iiJ, zIIs, zJJs, nEF, nET, and_false, false_and, jmin, jmax, catS_n, catS_i, catS_r, catS_l, Nat.reduceLeDiff, j1eq1, n21, jt0, jt1, Bool.false_eq_true, Classical.not_not, true_or, or_true, false_or, or_false, true_imp_iff, false_imp_iff, not_true_eq_false, not_false_eq_true, jif0, jif1, jifb, ltT, ltF, leT, leF, eqT, eqF, jlt, jle, jeq, jlt0, jle0, jeq0, jge0, jgt0, jinB, jnat, clt, cle, ceq, cgt, cge, lI_add, lI_sub, lI_mul, jadd, jsub, jmul, jneg, jtol, b010, b011, pv_2t, Int.toNat_natCast, Option.some.injEq, exists_eq_left', if_true, if_false, show gRc 26 = 0 from rfl]
    refine hq g f (by rw [← e]; exact h4) fun i hi => ?_
    have hl : i < (mbL set 12).length := by rw [hl12]; exact hi
    have := hm i _ (List.getElem?_eq_getElem hl)
    rw [this]
    unfold mbF
    rw [List.getElem?_eq_getElem hl, Option.getD_some]
  have lp : ∀ (j k : Nat) (g : Hp), j + k = 12 → fi (fun q => q = x ∨ q = x + 1) h g → zI g x 4 = iI (pcN set k) → (∀ i v, (mbL set k)[i]? = some v → zI g (x + 1) i = iI (v : Nat)) → PW d 26 5 [some (.ref x), some (.int (iI set)), some (.int (iI k))] [] g Q := by
    intro j
    induction j with
    | zero =>
      intro k g hj f h4 hm
      have e : k = 12 := by omega
      subst e
      refine vs_ok 3 ?_
      rw [show ((gRes 26).drop 5).take 3 = [.iload 2, .iconst 12, .if_icmp .ge 33] from rfl]
      simp (disch := omega) only [vs_iconst, vs_if_icmp, vs_iload2, vs_nil, gv_0, gv_1, gv_2, gv_3, pv_0, pv_1, va_rf_s, Nat.reduceDiv, Nat.reduceMod, Nat.reduceAdd, Nat.reduceMul, Int.reduceToNat, true_and, and_true, and_self, cP_eq, cP_ne, cP_lt, cP_ge, cP_gt, cP_le, eL_i, eL_l, eL_r, eL_n, Option.toList_none, Option.toList_some, List.nil_append, List.cons_append, kkI, llI, nnI, rrI, jjI, kkJ, llJ, nnJ, rrJ, iiJ, zIIs, zJJs, nEF, nET, and_false, false_and, jmin, jmax, catS_n, catS_i, catS_r, catS_l, Nat.reduceLeDiff, j1eq1, n21, jt0, jt1, Bool.false_eq_true, Classical.not_not, true_or, or_true, false_or, or_false, true_imp_iff, false_imp_iff, not_true_eq_false, not_false_eq_true, jif0, jif1, jifb, ltT, ltF, leT, leF, eqT, eqF, jlt, jle, jeq, jlt0, jle0, jeq0, jge0, jgt0, jinB, jnat, clt, cle, ceq, cgt, cge, lI_add, lI_sub, lI_mul, jadd, jsub, jmul, jneg, jtol, b010, b011, pv_2t, Int.toNat_natCast, Option.some.injEq, exists_eq_left', if_true, if_false]
      exact fin 12 g _ f rfl h4 hm
    | succ j ih =>
      intro k g hj f h4 hm
      have N := gaF (ho.fi f)
      have m1 := pcN_mono set (show k ≤ 12 by omega)
      have m2 := pcN_mono set (show k + 1 ≤ 12 by omega)
      have lk := mbL_len set k
      have pe : pcN set (k + 1) = pcN set k + (set >>> k) % 2 := rfl
      have he : (set >>> k) % 2 = if set.testBit k = true then 1 else 0 := by
        rw [Nat.shiftRight_eq_div_pow, tb_mod]
      have le : mbL set (k + 1) = if set.testBit k = true then mbL set k ++ [k] else mbL set k := rfl
      rw [he] at pe
      by_cases c7 : pcN set k < 7
      · by_cases c : set.testBit k = true
        · rw [if_pos c] at pe le
          refine vs_ok 14 ?_
          rw [show ((gRes 26).drop 5).take 14 = [.iload 2, .iconst 12, .if_icmp .ge 33, .aload 0, .getfield 2040, .iconst 7, .if_icmp .ge 33, .iload 1, .iload 2, .ishr, .iconst 1, .iand, .iconst 1, .if_icmp .ne 31] from rfl]
          simp (disch := omega) only [vs_iconst, vs_if_icmp, vs_getfield, vs_aload0, vs_iload1, vs_iload2, vs_nil, gv_0, gv_1, gv_2, gv_3, pv_0, pv_1, va_rf_s, vs_iand, vs_ishr, Nat.reduceDiv, Nat.reduceMod, Nat.reduceAdd, Nat.reduceMul, Int.reduceToNat, true_and, and_true, and_self, cP_eq, cP_ne, cP_lt, cP_ge, cP_gt, cP_le, eL_i, eL_l, eL_r, eL_n, Option.toList_none, Option.toList_some, List.nil_append, List.cons_append, kkI, llI, nnI, rrI, jjI, kkJ, llJ, nnJ, rrJ, iiJ, zIIs, zJJs, nEF, nET, and_false, false_and, jmin, jmax, catS_n, catS_i, catS_r, catS_l, Nat.reduceLeDiff, j1eq1, n21, jt0, jt1, Bool.false_eq_true, Classical.not_not, true_or, or_true, false_or, or_false, true_imp_iff, false_imp_iff, not_true_eq_false, not_false_eq_true, jif0, jif1, jifb, ltT, ltF, leT, leF, eqT, eqF, jlt, jle, jeq, jlt0, jle0, jeq0, jge0, jgt0, jinB, jnat, clt, cle, ceq, cgt, cge, lI_add, lI_sub, lI_mul, jadd, jsub, jmul, jneg, jtol, b010, b011, pv_2t, Int.toNat_natCast, Option.some.injEq, exists_eq_left', if_true, if_false, N, h4, jbit, c]
          refine vs_ok 12 ?_
          rw [show ((gRes 26).drop 19).take 12 = [.aload 0, .getfield 2002, .aload 0, .getfield 2040, .iload 2, .iastore, .aload 0, .dup, .getfield 2040, .iconst 1, .iadd, .putfield 2040] from rfl]
          simp (disch := omega) only [vs_iadd, vs_iconst, vs_getfield, vs_putfield, vs_iastore, vs_dupi, vs_dupr, vs_aload0, vs_iload2, vs_nil, gv_0, gv_1, gv_2, gv_3, pv_0, pv_1, va_rf_s, Nat.reduceDiv, Nat.reduceMod, Nat.reduceAdd, Nat.reduceMul, Int.reduceToNat, true_and, and_true, and_self, cP_eq, cP_ne, cP_lt, cP_ge, cP_gt, cP_le, eL_i, eL_l, eL_r, eL_n, Option.toList_none, Option.toList_some, List.nil_append, List.cons_append, kkI, llI, nnI, rrI, jjI, kkJ, llJ, nnJ, rrJ, iiJ, zIIs, zJJs, nEF, nET, and_false, false_and, jmin, jmax, catS_n, catS_i, catS_r, catS_l, Nat.reduceLeDiff, j1eq1, n21, jt0, jt1, Bool.false_eq_true, Classical.not_not, true_or, or_true, false_or, or_false, true_imp_iff, false_imp_iff, not_true_eq_false, not_false_eq_true, jif0, jif1, jifb, ltT, ltF, leT, leF, eqT, eqF, jlt, jle, jeq, jlt0, jle0, jeq0, jge0, jgt0, jinB, jnat, clt, cle, ceq, cgt, cge, lI_add, lI_sub, lI_mul, jadd, jsub, jmul, jneg, jtol, b010, b011, pv_2t, Int.toNat_natCast, Option.some.injEq, exists_eq_left', if_true, if_false, N, h4]
          refine vs_ok 2 ?_
          rw [show ((gRes 26).drop 31).take 2 = [.iinc 2 1, .goto 5] from rfl]
          simp (disch := omega) only [vs_goto, vs_iinc2n, vs_iinc2i, vs_iinc2r, vs_iinc2l, vs_nil, gv_0, gv_1, gv_2, gv_3, pv_0, pv_1, va_rf_s, Nat.reduceDiv, Nat.reduceMod, Nat.reduceAdd, Nat.reduceMul, Int.reduceToNat, true_and, and_true, and_self, cP_eq, cP_ne, cP_lt, cP_ge, cP_gt, cP_le, eL_i, eL_l, eL_r, eL_n, Option.toList_none, Option.toList_some, List.nil_append, List.cons_append, kkI, llI, nnI, rrI, jjI, kkJ, llJ, nnJ, rrJ, iiJ, zIIs, zJJs, nEF, nET, and_false, false_and, jmin, jmax, catS_n, catS_i, catS_r, catS_l, Nat.reduceLeDiff, j1eq1, n21, jt0, jt1, Bool.false_eq_true, Classical.not_not, true_or, or_true, false_or, or_false, true_imp_iff, false_imp_iff, not_true_eq_false, not_false_eq_true, jif0, jif1, jifb, ltT, ltF, leT, leF, eqT, eqF, jlt, jle, jeq, jlt0, jle0, jeq0, jge0, jgt0, jinB, jnat, clt, cle, ceq, cgt, cge, lI_add, lI_sub, lI_mul, jadd, jsub, jmul, jneg, jtol, b010, b011, pv_2t, Int.toNat_natCast, Option.some.injEq, exists_eq_left', if_true, if_false]
          refine ih (k + 1) _ (by omega) ((f.I (Or.inr rfl)).I (Or.inl rfl)) ?_ fun i v hi => ?_
          · rw [zI_s, if_pos ⟨rfl, rfl⟩, pe]
            rfl
          · rw [zI_s, if_neg (by omega), zI_s]
            rw [le] at hi
            by_cases y : i < (mbL set k).length
            · rw [if_neg (by omega)]
              rw [List.getElem?_append_left y] at hi
              exact hm i v hi
            · rw [List.getElem?_append_right (by omega)] at hi
              have h1 : i - (mbL set k).length = 0 := by
                have := (List.getElem?_eq_some_iff.mp hi).1
                simp at this
                omega
              rw [h1] at hi
              have : k = v := by simpa using hi
              rw [if_pos ⟨rfl, by omega⟩, this]
        · rw [if_neg c] at pe le
          refine vs_ok 14 ?_
          rw [show ((gRes 26).drop 5).take 14 = [.iload 2, .iconst 12, .if_icmp .ge 33, .aload 0, .getfield 2040, .iconst 7, .if_icmp .ge 33, .iload 1, .iload 2, .ishr, .iconst 1, .iand, .iconst 1, .if_icmp .ne 31] from rfl]
          simp (disch := omega) only [vs_iconst, vs_if_icmp, vs_getfield, vs_aload0, vs_iload1, vs_iload2, vs_nil, gv_0, gv_1, gv_2, gv_3, pv_0, pv_1, va_rf_s, vs_iand, vs_ishr, Nat.reduceDiv, Nat.reduceMod, Nat.reduceAdd, Nat.reduceMul, Int.reduceToNat, true_and, and_true, and_self, cP_eq, cP_ne, cP_lt, cP_ge, cP_gt, cP_le, eL_i, eL_l, eL_r, eL_n, Option.toList_none, Option.toList_some, List.nil_append, List.cons_append, kkI, llI, nnI, rrI, jjI, kkJ, llJ, nnJ, rrJ, iiJ, zIIs, zJJs, nEF, nET, and_false, false_and, jmin, jmax, catS_n, catS_i, catS_r, catS_l, Nat.reduceLeDiff, j1eq1, n21, jt0, jt1, Bool.false_eq_true, Classical.not_not, true_or, or_true, false_or, or_false, true_imp_iff, false_imp_iff, not_true_eq_false, not_false_eq_true, jif0, jif1, jifb, ltT, ltF, leT, leF, eqT, eqF, jlt, jle, jeq, jlt0, jle0, jeq0, jge0, jgt0, jinB, jnat, clt, cle, ceq, cgt, cge, lI_add, lI_sub, lI_mul, jadd, jsub, jmul, jneg, jtol, b010, b011, pv_2t, Int.toNat_natCast, Option.some.injEq, exists_eq_left', if_true, if_false, N, h4, jbit, c]
          refine vs_ok 2 ?_
          rw [show ((gRes 26).drop 31).take 2 = [.iinc 2 1, .goto 5] from rfl]
          simp (disch := omega) only [vs_goto, vs_iinc2n, vs_iinc2i, vs_iinc2r, vs_iinc2l, vs_nil, gv_0, gv_1, gv_2, gv_3, pv_0, pv_1, va_rf_s, Nat.reduceDiv, Nat.reduceMod, Nat.reduceAdd, Nat.reduceMul, Int.reduceToNat, true_and, and_true, and_self, cP_eq, cP_ne, cP_lt, cP_ge, cP_gt, cP_le, eL_i, eL_l, eL_r, eL_n, Option.toList_none, Option.toList_some, List.nil_append, List.cons_append, kkI, llI, nnI, rrI, jjI, kkJ, llJ, nnJ, rrJ, iiJ, zIIs, zJJs, nEF, nET, and_false, false_and, jmin, jmax, catS_n, catS_i, catS_r, catS_l, Nat.reduceLeDiff, j1eq1, n21, jt0, jt1, Bool.false_eq_true, Classical.not_not, true_or, or_true, false_or, or_false, true_imp_iff, false_imp_iff, not_true_eq_false, not_false_eq_true, jif0, jif1, jifb, ltT, ltF, leT, leF, eqT, eqF, jlt, jle, jeq, jlt0, jle0, jeq0, jge0, jgt0, jinB, jnat, clt, cle, ceq, cgt, cge, lI_add, lI_sub, lI_mul, jadd, jsub, jmul, jneg, jtol, b010, b011, pv_2t, Int.toNat_natCast, Option.some.injEq, exists_eq_left', if_true, if_false]
          refine ih (k + 1) g (by omega) f (by rw [pe]; exact h4) fun i v hi => ?_
          rw [le] at hi
          exact hm i v hi
      · refine vs_ok 28 ?_
        rw [show ((gRes 26).drop 5).take 28 = [.iload 2, .iconst 12, .if_icmp .ge 33, .aload 0, .getfield 2040, .iconst 7, .if_icmp .ge 33, .iload 1, .iload 2, .ishr, .iconst 1, .iand, .iconst 1, .if_icmp .ne 31, .aload 0, .getfield 2002, .aload 0, .getfield 2040, .iload 2, .iastore, .aload 0, .dup, .getfield 2040, .iconst 1, .iadd, .putfield 2040, .iinc 2 1, .goto 5] from rfl]
        simp (disch := omega) only [vs_iadd, vs_iconst, vs_goto, vs_if_icmp, vs_getfield, vs_putfield, vs_iastore, vs_dupi, vs_dupr, vs_aload0, vs_iload1, vs_iload2, vs_iinc2n, vs_iinc2i, vs_iinc2r, vs_iinc2l, vs_nil, gv_0, gv_1, gv_2, gv_3, pv_0, pv_1, va_rf_s, vs_iand, vs_ishr, Nat.reduceDiv, Nat.reduceMod, Nat.reduceAdd, Nat.reduceMul, Int.reduceToNat, true_and, and_true, and_self, cP_eq, cP_ne, cP_lt, cP_ge, cP_gt, cP_le, eL_i, eL_l, eL_r, eL_n, Option.toList_none, Option.toList_some, List.nil_append, List.cons_append, kkI, llI, nnI, rrI, jjI, kkJ, llJ, nnJ, rrJ, iiJ, zIIs, zJJs, nEF, nET, and_false, false_and, jmin, jmax, catS_n, catS_i, catS_r, catS_l, Nat.reduceLeDiff, j1eq1, n21, jt0, jt1, Bool.false_eq_true, Classical.not_not, true_or, or_true, false_or, or_false, true_imp_iff, false_imp_iff, not_true_eq_false, not_false_eq_true, jif0, jif1, jifb, ltT, ltF, leT, leF, eqT, eqF, jlt, jle, jeq, jlt0, jle0, jeq0, jge0, jgt0, jinB, jnat, clt, cle, ceq, cgt, cge, lI_add, lI_sub, lI_mul, jadd, jsub, jmul, jneg, jtol, b010, b011, pv_2t, Int.toNat_natCast, Option.some.injEq, exists_eq_left', if_true, if_false, N, h4]
        -- all that there are have been found
        have e : pcN set k = pcN set 12 := by omega
        refine fin k g _ f e h4 fun i v hi => hm i v ?_
        have all : ∀ m, k ≤ m → m ≤ 12 → mbL set m = mbL set k := fun m => by
          induction m with
          | zero =>
            intro h1 _
            rw [show k = 0 by omega]
          | succ m ihm =>
            intro h1 h2
            by_cases y : k = m + 1
            · rw [y]
            · have e2 := ihm (by omega) (by omega)
              have m3 := pcN_mono set (show k ≤ m by omega)
              have m4 := pcN_mono set (show m + 1 ≤ 12 by omega)
              have m5 : pcN set (m + 1) = pcN set m + (set >>> m) % 2 := rfl
              have he : (set >>> m) % 2 = if set.testBit m = true then 1 else 0 := by
                rw [Nat.shiftRight_eq_div_pow, tb_mod]
              have : ¬ set.testBit m = true := fun z => by
                rw [if_pos z] at he
                omega
              show (if set.testBit m = true then mbL set m ++ [m] else mbL set m) = _
              rw [if_neg this, e2]
        rw [← all 12 (by omega) (by omega)]
        exact hi
  refine vs_ok 5 ?_
  rw [show ((gRes 26).drop 0).take 5 = [.aload 0, .iconst 0, .putfield 2040, .iconst 0, .istore 2] from rfl]
  simp (disch := omega) only [vs_iconst, vs_putfield, vs_aload0, vs_istore2n, vs_istore2i, vs_istore2r, vs_istore2l, vs_nil, gv_0, gv_1, gv_2, gv_3, pv_0, pv_1, va_rf_s, Nat.reduceDiv, Nat.reduceMod, Nat.reduceAdd, Nat.reduceMul, Int.reduceToNat, true_and, and_true, and_self, cP_eq, cP_ne, cP_lt, cP_ge, cP_gt, cP_le, eL_i, eL_l, eL_r, eL_n, Option.toList_none, Option.toList_some, List.nil_append, List.cons_append, kkI, llI, nnI, rrI, jjI, kkJ, llJ, nnJ, rrJ, iiJ, zIIs, zJJs, nEF, nET, and_false, false_and, jmin, jmax, catS_n, catS_i, catS_r, catS_l, Nat.reduceLeDiff, j1eq1, n21, jt0, jt1, Bool.false_eq_true, Classical.not_not, true_or, or_true, false_or, or_false, true_imp_iff, false_imp_iff, not_true_eq_false, not_false_eq_true, jif0, jif1, jifb, ltT, ltF, leT, leF, eqT, eqF, jlt, jle, jeq, jlt0, jle0, jeq0, jge0, jgt0, jinB, jnat, clt, cle, ceq, cgt, cge, lI_add, lI_sub, lI_mul, jadd, jsub, jmul, jneg, jtol, b010, b011, pv_2t, Int.toNat_natCast, Option.some.injEq, exists_eq_left', if_true, if_false, gaF ho]
  refine lp 12 0 _ (by omega) (fi_I (Or.inl rfl)) ?_ fun i v hi => by simp [mbL] at hi
  rw [zI_s, if_pos ⟨rfl, rfl⟩]
  rfl
/-- who beats whom, of the members of a set: 1, -1; 0 with itself -/
def sgF (bt : Nat → Nat) (mem : Nat → Nat) (i j : Nat) : Int := if i < j then (if (bt (mem i)).testBit (mem j) = true then 1 else -1) else if j < i then (if (bt (mem j)).testBit (mem i) = true then -1 else 1) else 0
abbrev evP (bt : Nat → Nat) (mem : Nat → Nat) (i j : Nat) : Prop := ¬ (bt (mem i)).testBit (mem j) = true ∧ ¬ (bt (mem j)).testBit (mem i) = true
theorem t_readSigns {d : Nat} {h : Hp} {x y nm n : Nat} {bt mem : Nat → Nat} {Q : Nat → Option Value → Hp → Prop} (ho : objA h x 2 gaL) (hn : netC h y nm bt) (hd : y + 3 < x ∨ x + 4 < y) (h4 : zI h x 4 = iI n) (hn7 : n ≤ 7) (hm : ∀ i, i < n → mem i < nm ∧ zI h (x + 1) i = iI (mem i))
    (hq1 : (∀ i j, i < j → j < n → ¬ evP bt mem i j) → ∀ h', fi (fun q => q = x + 2) h h' → (∀ i j, i < n → j < n → zI h' (x + 2) (7 * i + j) = iI (sgF bt mem i j)) → (∀ i j, i < 7 → j < 7 → ¬ (i < n ∧ j < n) → zI h' (x + 2) (7 * i + j) = 0) → Q 0 (some (.int (iI 1))) h')
    (hq0 : (∃ i j, i < j ∧ j < n ∧ evP bt mem i j) → ∀ h', fi (fun q => q = x + 2) h h' → Q 0 (some (.int (iI 0))) h') : PR (d + 3) m_Game_readSigns [.ref x, .ref y] h Q := by
  have hnm := hn.2.1
  show PW (d + 3) 27 0 [some (.ref x), some (.ref y), none, none, none] [] h Q
  -- what stands in signs when all pairs below (a, b) are read
  let dn : Nat → Nat → Nat → Nat → Prop := fun a b i j => i < n ∧ j < n ∧ i ≠ j ∧ (min i j < a ∨ min i j = a ∧ max i j < b)
  have li : ∀ (a : Nat), a < n → ∀ (k b : Nat) (g : Hp) (o4 : Option Value), k + b = n → a < b → fi (fun q => q = x + 2) h g → (∀ i j, i < 7 → j < 7 → (dn a b i j → zI g (x + 2) (7 * i + j) = iI (sgF bt mem i j)) ∧ (¬ dn a b i j → zI g (x + 2) (7 * i + j) = 0)) → (∀ i j, i < j → j < n → dn a b i j → ¬ evP bt mem i j) → (∀ g o3 o4, fi (fun q => q = x + 2) h g → (∀ i j, i < 7 → j < 7 → (dn a n i j → zI g (x + 2) (7 * i + j) = iI (sgF bt mem i j)) ∧ (¬ dn a n i j → zI g (x + 2) (7 * i + j) = 0)) → (∀ i j, i < j → j < n → dn a n i j → ¬ evP bt mem i j) → PW (d + 3) 27 72 [some (.ref x), some (.ref y), some (.int (iI a)), o3, o4] [] g Q) → PW (d + 3) 27 14 [some (.ref x), some (.ref y), some (.int (iI a)), some (.int (iI b)), o4] [] g Q := by
    intro a ha k
    induction k with
    | zero =>
      intro b g o4 hk hab f hI hE K
      have e : b = n := by omega
      subst e
      have N := gaF (ho.fi f)
      have gx : zI g x = zI h x := f.1.2.2.2.2.2.1 _ (by omega)
      refine vs_ok 4 ?_
      rw [show ((gRes 27).drop 14).take 4 = [.iload 3, .aload 0, .getfield 2040, .if_icmp .ge 72] from rfl]
      simp (disch := omega) only [vs_if_icmp, vs_getfield, vs_aload0, vs_iload3, vs_nil, gv_0, gv_1, gv_2, gv_3, pv_0, pv_1, va_rf_s, Nat.reduceDiv, Nat.reduceMod, Nat.reduceAdd, Nat.reduceMul, Int.reduceToNat, true_and, and_true, and_self, cP_eq, cP_ne, cP_lt, cP_ge, cP_gt, cP_le, eL_i, eL_l, eL_r, eL_n, Option.toList_none, Option.toList_some, List.nil_append, List.cons_append, kkI, llI, nnI, rrI, jjI, kkJ, llJ, nnJ, rrJ, iiJ, zIIs, zJJs, nEF, nET, and_false, false_and, jmin, jmax, catS_n, catS_i, catS_r, catS_l, Nat.reduceLeDiff, j1eq1, n21, jt0, jt1, Bool.false_eq_true, Classical.not_not, true_or, or_true, false_or, or_false, true_imp_iff, false_imp_iff, not_true_eq_false, not_false_eq_true, jif0, jif1, jifb, ltT, ltF, leT, leF, eqT, eqF, jlt, jle, jeq, jlt0, jle0, jeq0, jge0, jgt0, jinB, jnat, clt, cle, ceq, cgt, cge, lI_add, lI_sub, lI_mul, jadd, jsub, jmul, jneg, jtol, b010, b011, pv_2t, Int.toNat_natCast, Option.some.injEq, exists_eq_left', if_true, if_false, N, gx, h4]
      exact K g _ _ f hI hE
    | succ k ih =>
      intro b g o4 hk hab f hI hE K
      have N := gaF (ho.fi f)
      have gx : zI g x = zI h x := f.1.2.2.2.2.2.1 _ (by omega)
      have g1 : zI g (x + 1) = zI h (x + 1) := f.1.2.2.2.2.2.1 _ (by omega)
      have gn : netC g y nm bt := hn.fi f (by rw [f.1.2.2.2.2.2.1 _ (by omega)]) (by omega)
      obtain ⟨ma, za⟩ := hm a ha
      obtain ⟨mb, zb⟩ := hm b (by omega)
      -- behind both writes
      have go : ∀ (g2 : Hp) (o4 : Option Value) (u : Int), u = (if (bt (mem a)).testBit (mem b) = true then 1 else -1) → g2 = zsI (zsI g (x + 2) (7 * a + b) (iI u)) (x + 2) (7 * b + a) (iI (-u)) → ¬ evP bt mem a b → PW (d + 3) 27 70 [some (.ref x), some (.ref y), some (.int (iI a)), some (.int (iI b)), o4] [] g2 Q := fun g2 o4 u hu hg2 hev => by
        refine vs_ok 2 ?_
        rw [show ((gRes 27).drop 70).take 2 = [.iinc 3 1, .goto 14] from rfl]
        simp (disch := omega) only [vs_goto, vs_iinc3n, vs_iinc3i, vs_iinc3r, vs_iinc3l, vs_nil, gv_0, gv_1, gv_2, gv_3, pv_0, pv_1, va_rf_s, Nat.reduceDiv, Nat.reduceMod, Nat.reduceAdd, Nat.reduceMul, Int.reduceToNat, true_and, and_true, and_self, cP_eq, cP_ne, cP_lt, cP_ge, cP_gt, cP_le, eL_i, eL_l, eL_r, eL_n, Option.toList_none, Option.toList_some, List.nil_append, List.cons_append, kkI, llI, nnI, rrI, jjI, kkJ, llJ, nnJ, rrJ, iiJ, zIIs, zJJs, nEF, nET, and_false, false_and, jmin, jmax, catS_n, catS_i, catS_r, catS_l, Nat.reduceLeDiff, j1eq1, n21, jt0, jt1, Bool.false_eq_true, Classical.not_not, true_or, or_true, false_or, or_false, true_imp_iff, false_imp_iff, not_true_eq_false, not_false_eq_true, jif0, jif1, jifb, ltT, ltF, leT, leF, eqT, eqF, jlt, jle, jeq, jlt0, jle0, jeq0, jge0, jgt0, jinB, jnat, clt, cle, ceq, cgt, cge, lI_add, lI_sub, lI_mul, jadd, jsub, jmul, jneg, jtol, b010, b011, pv_2t, Int.toNat_natCast, Option.some.injEq, exists_eq_left', if_true, if_false]
        have e1 : sgF bt mem a b = u := by unfold sgF; rw [if_pos hab, hu]
        have e2 : sgF bt mem b a = -u := by
          unfold sgF
          rw [if_neg (by omega), if_pos hab, hu]
          split <;> rfl
        refine ih (b + 1) g2 _ (by omega) (by omega) (by rw [hg2]; exact (f.I rfl).I rfl) (fun i j hi hj => ⟨fun z => ?_, fun z => ?_⟩) (fun i j hij hj z => ?_) K
        · rw [hg2, zI_s, zI_s]
          by_cases c1 : i = b ∧ j = a
          · rw [if_pos ⟨rfl, by omega⟩, c1.1, c1.2, e2]
          · rw [if_neg (by omega)]
            by_cases c2 : i = a ∧ j = b
            · rw [if_pos ⟨rfl, by omega⟩, c2.1, c2.2, e1]
            · rw [if_neg (by omega)]
              exact (hI i j hi hj).1 (by simp only [dn] at z ⊢; omega)
        · rw [hg2, zI_s, zI_s, if_neg (by simp only [dn] at z; omega), if_neg (by simp only [dn] at z; omega)]
          exact (hI i j hi hj).2 (by simp only [dn] at z ⊢; omega)
        · by_cases c2 : i = a ∧ j = b
          · rw [c2.1, c2.2]
            exact hev
          · exact hE i j hij hj (by simp only [dn] at z ⊢; omega)
      have e7 : ∀ u v : Nat, (u : Int) * 7 + (v : Int) = ((7 * u + v : Nat) : Int) := fun u v => by omega
      refine vs_ok 4 ?_
      rw [show ((gRes 27).drop 14).take 4 = [.iload 3, .aload 0, .getfield 2040, .if_icmp .ge 72] from rfl]
      simp (disch := omega) only [vs_if_icmp, vs_getfield, vs_aload0, vs_iload3, vs_nil, gv_0, gv_1, gv_2, gv_3, pv_0, pv_1, va_rf_s, Nat.reduceDiv, Nat.reduceMod, Nat.reduceAdd, Nat.reduceMul, Int.reduceToNat, true_and, and_true, and_self, cP_eq, cP_ne, cP_lt, cP_ge, cP_gt, cP_le, eL_i, eL_l, eL_r, eL_n, Option.toList_none, Option.toList_some, List.nil_append, List.cons_append, kkI, llI, nnI, rrI, jjI, kkJ, llJ, nnJ, rrJ, iiJ, zIIs, zJJs, nEF, nET, and_false, false_and, jmin, jmax, catS_n, catS_i, catS_r, catS_l, Nat.reduceLeDiff, j1eq1, n21, jt0, jt1, Bool.false_eq_true, Classical.not_not, true_or, or_true, false_or, or_false, true_imp_iff, false_imp_iff, not_true_eq_false, not_false_eq_true, jif0, jif1, jifb, ltT, ltF, leT, leF, eqT, eqF, jlt, jle, jeq, jlt0, jle0, jeq0, jge0, jgt0, jinB, jnat, clt, cle, ceq, cgt, cge, lI_add, lI_sub, lI_mul, jadd, jsub, jmul, jneg, jtol, b010, b011, pv_2t, Int.toNat_natCast, Option.some.injEq, exists_eq_left', if_true, if_false, N, gx, h4]
      refine vs_ok 9 ?_
      rw [show ((gRes 27).drop 18).take 9 = [.aload 1, .aload 0, .getfield 2002, .iload 2, .iaload, .aload 0, .getfield 2002, .iload 3, .iaload] from rfl]
      simp (disch := omega) only [vs_getfield, vs_iaload, vs_aload0, vs_aload1, vs_iload2, vs_iload3, vs_nil, gv_0, gv_1, gv_2, gv_3, pv_0, pv_1, va_rf_s, Nat.reduceDiv, Nat.reduceMod, Nat.reduceAdd, Nat.reduceMul, Int.reduceToNat, true_and, and_true, and_self, cP_eq, cP_ne, cP_lt, cP_ge, cP_gt, cP_le, eL_i, eL_l, eL_r, eL_n, Option.toList_none, Option.toList_some, List.nil_append, List.cons_append, kkI, llI, nnI, rrI, jjI, kkJ, llJ, nnJ, rrJ, iiJ, zIIs, zJJs, nEF, nET, and_false, false_and, jmin, jmax, catS_n, catS_i, catS_r, catS_l, Nat.reduceLeDiff, j1eq1, n21, jt0, jt1, Bool.false_eq_true, Classical.not_not, true_or, or_true, false_or, or_false, true_imp_iff, false_imp_iff, not_true_eq_false, not_false_eq_true, jif0, jif1, jifb, ltT, ltF, leT, leF, eqT, eqF, jlt, jle, jeq, jlt0, jle0, jeq0, jge0, jgt0, jinB, jnat, clt, cle, ceq, cgt, cge, lI_add, lI_sub, lI_mul, jadd, jsub, jmul, jneg, jtol, b010, b011, pv_2t, Int.toNat_natCast, Option.some.injEq, exists_eq_left', if_true, if_false, N, g1, za, zb]
      refine PW.iv rfl rfl rfl (nF gn.1).1.1 (nF gn.1).1.2 (le_b rfl) (le_b rfl) ?_
      refine t_isAbove gn ma (by omega) ⟨rfl, ⟨rfl, rfl⟩, ?_⟩
      by_cases c1 : (bt (mem a)).testBit (mem b) = true
      · refine vs_ok 3 ?_
        rw [show ((gRes 27).drop 28).take 3 = [.istore 4, .iload 4, .ifCond .ne 44] from rfl]
        simp (disch := omega) only [vs_ifCond, vs_iload4, vs_istore4n, vs_istore4i, vs_istore4r, vs_istore4l, vs_nil, gv_0, gv_1, gv_2, gv_3, pv_0, pv_1, va_rf_s, Nat.reduceDiv, Nat.reduceMod, Nat.reduceAdd, Nat.reduceMul, Int.reduceToNat, true_and, and_true, and_self, cP_eq, cP_ne, cP_lt, cP_ge, cP_gt, cP_le, eL_i, eL_l, eL_r, eL_n, Option.toList_none, Option.toList_some, List.nil_append, List.cons_append, kkI, llI, nnI, rrI, jjI, kkJ, llJ, nnJ, rrJ, iiJ, zIIs, zJJs, nEF, nET, and_false, false_and, jmin, jmax, catS_n, catS_i, catS_r, catS_l, Nat.reduceLeDiff, j1eq1, n21, jt0, jt1, Bool.false_eq_true, Classical.not_not, true_or, or_true, false_or, or_false, true_imp_iff, false_imp_iff, not_true_eq_false, not_false_eq_true, jif0, jif1, jifb, ltT, ltF, leT, leF, eqT, eqF, jlt, jle, jeq, jlt0, jle0, jeq0, jge0, jgt0, jinB, jnat, clt, cle, ceq, cgt, cge, lI_add, lI_sub, lI_mul, jadd, jsub, jmul, jneg, jtol, b010, b011, pv_2t, Int.toNat_natCast, Option.some.injEq, exists_eq_left', if_true, if_false, c1]
        refine vs_ok 11 ?_
        rw [show ((gRes 27).drop 44).take 11 = [.aload 0, .getfield 2012, .iload 2, .iconst 7, .imul, .iload 3, .iadd, .iload 4, .ifCond .eq 55, .iconst 1, .goto 56] from rfl]
        simp (disch := omega) only [vs_iadd, vs_imul, vs_iconst, vs_goto, vs_ifCond, vs_getfield, vs_aload0, vs_iload2, vs_iload3, vs_iload4, vs_nil, gv_0, gv_1, gv_2, gv_3, pv_0, pv_1, va_rf_s, Nat.reduceDiv, Nat.reduceMod, Nat.reduceAdd, Nat.reduceMul, Int.reduceToNat, true_and, and_true, and_self, cP_eq, cP_ne, cP_lt, cP_ge, cP_gt, cP_le, eL_i, eL_l, eL_r, eL_n, Option.toList_none, Option.toList_some, List.nil_append, List.cons_append, kkI, llI, nnI, rrI, jjI, kkJ, llJ, nnJ, rrJ, iiJ, zIIs, zJJs, nEF, nET, and_false, false_and, jmin, jmax, catS_n, catS_i, catS_r, catS_l, Nat.reduceLeDiff, j1eq1, n21, jt0, jt1, Bool.false_eq_true, Classical.not_not, true_or, or_true, false_or, or_false, true_imp_iff, false_imp_iff, not_true_eq_false, not_false_eq_true, jif0, jif1, jifb, ltT, ltF, leT, leF, eqT, eqF, jlt, jle, jeq, jlt0, jle0, jeq0, jge0, jgt0, jinB, jnat, clt, cle, ceq, cgt, cge, lI_add, lI_sub, lI_mul, jadd, jsub, jmul, jneg, jtol, b010, b011, pv_2t, Int.toNat_natCast, Option.some.injEq, exists_eq_left', if_true, if_false, N, e7]
        refine vs_ok 1 ?_
        rw [show ((gRes 27).drop 56).take 1 = [.iastore] from rfl]
        simp (disch := omega) only [vs_iastore, vs_nil, gv_0, gv_1, gv_2, gv_3, pv_0, pv_1, va_rf_s, Nat.reduceDiv, Nat.reduceMod, Nat.reduceAdd, Nat.reduceMul, Int.reduceToNat, true_and, and_true, and_self, cP_eq, cP_ne, cP_lt, cP_ge, cP_gt, cP_le, eL_i, eL_l, eL_r, eL_n, Option.toList_none, Option.toList_some, List.nil_append, List.cons_append, kkI, llI, nnI, rrI, jjI, kkJ, llJ, nnJ, rrJ, iiJ, zIIs, zJJs, nEF, nET, and_false, false_and, jmin, jmax, catS_n, catS_i, catS_r, catS_l, Nat.reduceLeDiff, j1eq1, n21, jt0, jt1, Bool.false_eq_true, Classical.not_not, true_or, or_true, false_or, or_false, true_imp_iff, false_imp_iff, not_true_eq_false, not_false_eq_true, jif0, jif1, jifb, ltT, ltF, leT, leF, eqT, eqF, jlt, jle, jeq, jlt0, jle0, jeq0, jge0, jgt0, jinB, jnat, clt, cle, ceq, cgt, cge, lI_add, lI_sub, lI_mul, jadd, jsub, jmul, jneg, jtol, b010, b011, pv_2t, Int.toNat_natCast, Option.some.injEq, exists_eq_left', if_true, if_false, N, e7]
        refine vs_ok 11 ?_
        rw [show ((gRes 27).drop 57).take 11 = [.aload 0, .getfield 2012, .iload 3, .iconst 7, .imul, .iload 2, .iadd, .iload 4, .ifCond .eq 68, .iconst (-1), .goto 69] from rfl]
        simp (disch := omega) only [vs_iadd, vs_imul, vs_iconst, vs_goto, vs_ifCond, vs_getfield, vs_aload0, vs_iload2, vs_iload3, vs_iload4, vs_nil, gv_0, gv_1, gv_2, gv_3, pv_0, pv_1, va_rf_s, Nat.reduceDiv, Nat.reduceMod, Nat.reduceAdd, Nat.reduceMul, Int.reduceToNat, true_and, and_true, and_self, cP_eq, cP_ne, cP_lt, cP_ge, cP_gt, cP_le, eL_i, eL_l, eL_r, eL_n, Option.toList_none, Option.toList_some, List.nil_append, List.cons_append, kkI, llI, nnI, rrI, jjI, kkJ, llJ, nnJ, rrJ, iiJ, zIIs, zJJs, nEF, nET, and_false, false_and, jmin, jmax, catS_n, catS_i, catS_r, catS_l, Nat.reduceLeDiff, j1eq1, n21, jt0, jt1, Bool.false_eq_true, Classical.not_not, true_or, or_true, false_or, or_false, true_imp_iff, false_imp_iff, not_true_eq_false, not_false_eq_true, jif0, jif1, jifb, ltT, ltF, leT, leF, eqT, eqF, jlt, jle, jeq, jlt0, jle0, jeq0, jge0, jgt0, jinB, jnat, clt, cle, ceq, cgt, cge, lI_add, lI_sub, lI_mul, jadd, jsub, jmul, jneg, jtol, b010, b011, pv_2t, Int.toNat_natCast, Option.some.injEq, exists_eq_left', if_true, if_false, N, e7]
        refine vs_ok 1 ?_
        rw [show ((gRes 27).drop 69).take 1 = [.iastore] from rfl]
        simp (disch := omega) only [vs_iastore, vs_nil, gv_0, gv_1, gv_2, gv_3, pv_0, pv_1, va_rf_s, Nat.reduceDiv, Nat.reduceMod, Nat.reduceAdd, Nat.reduceMul, Int.reduceToNat, true_and, and_true, and_self, cP_eq, cP_ne, cP_lt, cP_ge, cP_gt, cP_le, eL_i, eL_l, eL_r, eL_n, Option.toList_none, Option.toList_some, List.nil_append, List.cons_append, kkI, llI, nnI, rrI, jjI, kkJ, llJ, nnJ, rrJ, iiJ, zIIs, zJJs, nEF, nET, and_false, false_and, jmin, jmax, catS_n, catS_i, catS_r, catS_l, Nat.reduceLeDiff, j1eq1, n21, jt0, jt1, Bool.false_eq_true, Classical.not_not, true_or, or_true, false_or, or_false, true_imp_iff, false_imp_iff, not_true_eq_false, not_false_eq_true, jif0, jif1, jifb, ltT, ltF, leT, leF, eqT, eqF, jlt, jle, jeq, jlt0, jle0, jeq0, jge0, jgt0, jinB, jnat, clt, cle, ceq, cgt, cge, lI_add, lI_sub, lI_mul, jadd, jsub, jmul, jneg, jtol, b010, b011, pv_2t, Int.toNat_natCast, Option.some.injEq, exists_eq_left', if_true, if_false, N, e7]
        exact go _ _ 1 (by rw [if_pos c1]) rfl fun z => z.1 c1
      · refine vs_ok 3 ?_
        rw [show ((gRes 27).drop 28).take 3 = [.istore 4, .iload 4, .ifCond .ne 44] from rfl]
        simp (disch := omega) only [vs_ifCond, vs_iload4, vs_istore4n, vs_istore4i, vs_istore4r, vs_istore4l, vs_nil, gv_0, gv_1, gv_2, gv_3, pv_0, pv_1, va_rf_s, Nat.reduceDiv, Nat.reduceMod, Nat.reduceAdd, Nat.reduceMul, Int.reduceToNat, true_and, and_true, and_self, cP_eq, cP_ne, cP_lt, cP_ge, cP_gt, cP_le, eL_i, eL_l, eL_r, eL_n, Option.toList_none, Option.toList_some, List.nil_append, List.cons_append, kkI, llI, nnI, rrI, jjI, kkJ, llJ, nnJ, rrJ, iiJ, zIIs, zJJs, nEF, nET, and_false, false_and, jmin, jmax, catS_n, catS_i, catS_r, catS_l, Nat.reduceLeDiff, j1eq1, n21, jt0, jt1, Bool.false_eq_true, Classical.not_not, true_or, or_true, false_or, or_false, true_imp_iff, false_imp_iff, not_true_eq_false, not_false_eq_true, jif0, jif1, jifb, ltT, ltF, leT, leF, eqT, eqF, jlt, jle, jeq, jlt0, jle0, jeq0, jge0, jgt0, jinB, jnat, clt, cle, ceq, cgt, cge, lI_add, lI_sub, lI_mul, jadd, jsub, jmul, jneg, jtol, b010, b011, pv_2t, Int.toNat_natCast, Option.some.injEq, exists_eq_left', if_true, if_false, c1]
        refine vs_ok 9 ?_
        rw [show ((gRes 27).drop 31).take 9 = [.aload 1, .aload 0, .getfield 2002, .iload 3, .iaload, .aload 0, .getfield 2002, .iload 2, .iaload] from rfl]
        simp (disch := omega) only [vs_getfield, vs_iaload, vs_aload0, vs_aload1, vs_iload2, vs_iload3, vs_nil, gv_0, gv_1, gv_2, gv_3, pv_0, pv_1, va_rf_s, Nat.reduceDiv, Nat.reduceMod, Nat.reduceAdd, Nat.reduceMul, Int.reduceToNat, true_and, and_true, and_self, cP_eq, cP_ne, cP_lt, cP_ge, cP_gt, cP_le, eL_i, eL_l, eL_r, eL_n, Option.toList_none, Option.toList_some, List.nil_append, List.cons_append, kkI, llI, nnI, rrI, jjI, kkJ, llJ, nnJ, rrJ, iiJ, zIIs, zJJs, nEF, nET, and_false, false_and, jmin, jmax, catS_n, catS_i, catS_r, catS_l, Nat.reduceLeDiff, j1eq1, n21, jt0, jt1, Bool.false_eq_true, Classical.not_not, true_or, or_true, false_or, or_false, true_imp_iff, false_imp_iff, not_true_eq_false, not_false_eq_true, jif0, jif1, jifb, ltT, ltF, leT, leF, eqT, eqF, jlt, jle, jeq, jlt0, jle0, jeq0, jge0, jgt0, jinB, jnat, clt, cle, ceq, cgt, cge, lI_add, lI_sub, lI_mul, jadd, jsub, jmul, jneg, jtol, b010, b011, pv_2t, Int.toNat_natCast, Option.some.injEq, exists_eq_left', if_true, if_false, N, g1, za, zb]
        refine PW.iv rfl rfl rfl (nF gn.1).1.1 (nF gn.1).1.2 (le_b rfl) (le_b rfl) ?_
        refine t_isAbove gn mb (by omega) ⟨rfl, ⟨rfl, rfl⟩, ?_⟩
        by_cases c2 : (bt (mem b)).testBit (mem a) = true
        · refine vs_ok 1 ?_
          rw [show ((gRes 27).drop 41).take 1 = [.ifCond .ne 44] from rfl]
          simp (disch := omega) only [vs_ifCond, vs_nil, gv_0, gv_1, gv_2, gv_3, pv_0, pv_1, va_rf_s, Nat.reduceDiv, Nat.reduceMod, Nat.reduceAdd, Nat.reduceMul, Int.reduceToNat, true_and, and_true, and_self, cP_eq, cP_ne, cP_lt, cP_ge, cP_gt, cP_le, eL_i, eL_l, eL_r, eL_n, Option.toList_none, Option.toList_some, List.nil_append, List.cons_append, kkI, llI, nnI, rrI, jjI, kkJ, llJ, nnJ, rrJ, iiJ, zIIs, zJJs, nEF, nET, and_false, false_and, jmin, jmax, catS_n, catS_i, catS_r, catS_l, Nat.reduceLeDiff, j1eq1, n21, jt0, jt1, Bool.false_eq_true, Classical.not_not, true_or, or_true, false_or, or_false, true_imp_iff, false_imp_iff, not_true_eq_false, not_false_eq_true, jif0, jif1, jifb, ltT, ltF, leT, leF, eqT, eqF, jlt, jle, jeq, jlt0, jle0, jeq0, jge0, jgt0, jinB, jnat, clt, cle, ceq, cgt, cge, lI_add, lI_sub, lI_mul, jadd, jsub, jmul, jneg, jtol, b010, b011, pv_2t, Int.toNat_natCast, Option.some.injEq, exists_eq_left', if_true, if_false, c2]
          refine vs_ok 9 ?_
          rw [show ((gRes 27).drop 44).take 9 = [.aload 0, .getfield 2012, .iload 2, .iconst 7, .imul, .iload 3, .iadd, .iload 4, .ifCond .eq 55] from rfl]
          simp (disch := omega) only [vs_iadd, vs_imul, vs_iconst, vs_ifCond, vs_getfield, vs_aload0, vs_iload2, vs_iload3, vs_iload4, vs_nil, gv_0, gv_1, gv_2, gv_3, pv_0, pv_1, va_rf_s, Nat.reduceDiv, Nat.reduceMod, Nat.reduceAdd, Nat.reduceMul, Int.reduceToNat, true_and, and_true, and_self, cP_eq, cP_ne, cP_lt, cP_ge, cP_gt, cP_le, eL_i, eL_l, eL_r, eL_n, Option.toList_none, Option.toList_some, List.nil_append, List.cons_append, kkI, llI, nnI, rrI, jjI, kkJ, llJ, nnJ, rrJ, iiJ, zIIs, zJJs, nEF, nET, and_false, false_and, jmin, jmax, catS_n, catS_i, catS_r, catS_l, Nat.reduceLeDiff, j1eq1, n21, jt0, jt1, Bool.false_eq_true, Classical.not_not, true_or, or_true, false_or, or_false, true_imp_iff, false_imp_iff, not_true_eq_false, not_false_eq_true, jif0, jif1, jifb, ltT, ltF, leT, leF, eqT, eqF, jlt, jle, jeq, jlt0, jle0, jeq0, jge0, jgt0, jinB, jnat, clt, cle, ceq, cgt, cge, lI_add, lI_sub, lI_mul, jadd, jsub, jmul, jneg, jtol, b010, b011, pv_2t, Int.toNat_natCast, Option.some.injEq, exists_eq_left', if_true, if_false, N, e7]
          refine vs_ok 2 ?_
          rw [show ((gRes 27).drop 55).take 2 = [.iconst (-1), .iastore] from rfl]
          simp (disch := omega) only [vs_iconst, vs_iastore, vs_nil, gv_0, gv_1, gv_2, gv_3, pv_0, pv_1, va_rf_s, Nat.reduceDiv, Nat.reduceMod, Nat.reduceAdd, Nat.reduceMul, Int.reduceToNat, true_and, and_true, and_self, cP_eq, cP_ne, cP_lt, cP_ge, cP_gt, cP_le, eL_i, eL_l, eL_r, eL_n, Option.toList_none, Option.toList_some, List.nil_append, List.cons_append, kkI, llI, nnI, rrI, jjI, kkJ, llJ, nnJ, rrJ, iiJ, zIIs, zJJs, nEF, nET, and_false, false_and, jmin, jmax, catS_n, catS_i, catS_r, catS_l, Nat.reduceLeDiff, j1eq1, n21, jt0, jt1, Bool.false_eq_true, Classical.not_not, true_or, or_true, false_or, or_false, true_imp_iff, false_imp_iff, not_true_eq_false, not_false_eq_true, jif0, jif1, jifb, ltT, ltF, leT, leF, eqT, eqF, jlt, jle, jeq, jlt0, jle0, jeq0, jge0, jgt0, jinB, jnat, clt, cle, ceq, cgt, cge, lI_add, lI_sub, lI_mul, jadd, jsub, jmul, jneg, jtol, b010, b011, pv_2t, Int.toNat_natCast, Option.some.injEq, exists_eq_left', if_true, if_false, N, e7]
          refine vs_ok 9 ?_
          rw [show ((gRes 27).drop 57).take 9 = [.aload 0, .getfield 2012, .iload 3, .iconst 7, .imul, .iload 2, .iadd, .iload 4, .ifCond .eq 68] from rfl]
          simp (disch := omega) only [vs_iadd, vs_imul, vs_iconst, vs_ifCond, vs_getfield, vs_aload0, vs_iload2, vs_iload3, vs_iload4, vs_nil, gv_0, gv_1, gv_2, gv_3, pv_0, pv_1, va_rf_s, Nat.reduceDiv, Nat.reduceMod, Nat.reduceAdd, Nat.reduceMul, Int.reduceToNat, true_and, and_true, and_self, cP_eq, cP_ne, cP_lt, cP_ge, cP_gt, cP_le, eL_i, eL_l, eL_r, eL_n, Option.toList_none, Option.toList_some, List.nil_append, List.cons_append, kkI, llI, nnI, rrI, jjI, kkJ, llJ, nnJ, rrJ, iiJ, zIIs, zJJs, nEF, nET, and_false, false_and, jmin, jmax, catS_n, catS_i, catS_r, catS_l, Nat.reduceLeDiff, j1eq1, n21, jt0, jt1, Bool.false_eq_true, Classical.not_not, true_or, or_true, false_or, or_false, true_imp_iff, false_imp_iff, not_true_eq_false, not_false_eq_true, jif0, jif1, jifb, ltT, ltF, leT, leF, eqT, eqF, jlt, jle, jeq, jlt0, jle0, jeq0, jge0, jgt0, jinB, jnat, clt, cle, ceq, cgt, cge, lI_add, lI_sub, lI_mul, jadd, jsub, jmul, jneg, jtol, b010, b011, pv_2t, Int.toNat_natCast, Option.some.injEq, exists_eq_left', if_true, if_false, N, e7]
          refine vs_ok 2 ?_
          rw [show ((gRes 27).drop 68).take 2 = [.iconst 1, .iastore] from rfl]
          simp (disch := omega) only [vs_iconst, vs_iastore, vs_nil, gv_0, gv_1, gv_2, gv_3, pv_0, pv_1, va_rf_s, Nat.reduceDiv, Nat.reduceMod, Nat.reduceAdd, Nat.reduceMul, Int.reduceToNat, true_and, and_true, and_self, cP_eq, cP_ne, cP_lt, cP_ge, cP_gt, cP_le, eL_i, eL_l, eL_r, eL_n, Option.toList_none, Option.toList_some, List.nil_append, List.cons_append, kkI, llI, nnI, rrI, jjI, kkJ, llJ, nnJ, rrJ, iiJ, zIIs, zJJs, nEF, nET, and_false, false_and, jmin, jmax, catS_n, catS_i, catS_r, catS_l, Nat.reduceLeDiff, j1eq1, n21, jt0, jt1, Bool.false_eq_true, Classical.not_not, true_or, or_true, false_or, or_false, true_imp_iff, false_imp_iff, not_true_eq_false, not_false_eq_true, jif0, jif1, jifb, ltT, ltF, leT, leF, eqT, eqF, jlt, jle, jeq, jlt0, jle0, jeq0, jge0, jgt0, jinB, jnat, clt, cle, ceq, cgt, cge, lI_add, lI_sub, lI_mul, jadd, jsub, jmul, jneg, jtol, b010, b011, pv_2t, Int.toNat_natCast, Option.some.injEq, exists_eq_left', if_true, if_false, N, e7]
          exact go _ _ (-1) (by rw [if_neg c1]) rfl fun z => z.2 c2
        · refine vs_ok 1 ?_
          rw [show ((gRes 27).drop 41).take 1 = [.ifCond .ne 44] from rfl]
          simp (disch := omega) only [vs_ifCond, vs_nil, gv_0, gv_1, gv_2, gv_3, pv_0, pv_1, va_rf_s, Nat.reduceDiv, Nat.reduceMod, Nat.reduceAdd, Nat.reduceMul, Int.reduceToNat, true_and, and_true, and_self, cP_eq, cP_ne, cP_lt, cP_ge, cP_gt, cP_le, eL_i, eL_l, eL_r, eL_n, Option.toList_none, Option.toList_some, List.nil_append, List.cons_append, kkI, llI, nnI, rrI, jjI, kkJ, llJ, nnJ, rrJ, iiJ, zIIs, zJJs, nEF, nET, and_false, false_and, jmin, jmax, catS_n, catS_i, catS_r, catS_l, Nat.reduceLeDiff, j1eq1, n21, jt0, jt1, Bool.false_eq_true, Classical.not_not, true_or, or_true, false_or, or_false, true_imp_iff, false_imp_iff, not_true_eq_false, not_false_eq_true, jif0, jif1, jifb, ltT, ltF, leT, leF, eqT, eqF, jlt, jle, jeq, jlt0, jle0, jeq0, jge0, jgt0, jinB, jnat, clt, cle, ceq, cgt, cge, lI_add, lI_sub, lI_mul, jadd, jsub, jmul, jneg, jtol, b010, b011, pv_2t, Int.toNat_natCast, Option.some.injEq, exists_eq_left', if_true, if_false, c2]
          refine vs_ok 2 ?_
          rw [show ((gRes 27).drop 42).take 2 = [.iconst 0, .ireturn] from rfl]
          simp (disch := omega) only [vs_iconst, vs_ireturn, vs_nil, gv_0, gv_1, gv_2, gv_3, pv_0, pv_1, va_rf_s, Nat.reduceDiv, Nat.reduceMod, Nat.reduceAdd, Nat.reduceMul, Int.reduceToNat, true_and, and_true, and_self, cP_eq, cP_ne, cP_lt, cP_ge, cP_gt, cP_le, eL_i, eL_l, eL_r, eL_n, Option.toList_none, Option.toList_some, List.nil_append, List.cons_append, kkI, llI, nnI, rrI, jjI, kkJ, llJ, nnJ, rrJ, iiJ, zIIs, zJJs, nEF, nET, and_false, false_and, jmin, jmax, catS_n, catS_i, catS_r, catS_l, Nat.reduceLeDiff, j1eq1, n21, jt0, jt1, Bool.false_eq_true, Classical.not_not, true_or, or_true, false_or, or_false, true_imp_iff, false_imp_iff, not_true_eq_false, not_false_eq_true, jif0, jif1, jifb, ltT, ltF, leT, leF, eqT, eqF, jlt, jle, jeq, jlt0, jle0, jeq0, jge0, jgt0, jinB, jnat, clt, cle, ceq, cgt, cge, lI_add, lI_sub, lI_mul, jadd, jsub, jmul, jneg, jtol, b010, b011, pv_2t, Int.toNat_natCast, Option.some.injEq, exists_eq_left', if_true, if_false, show gRc 27 = 2 from rfl]
          exact hq0 ⟨a, b, hab, by omega, c1, c2⟩ g f
  have lo : ∀ (k a : Nat) (g : Hp) (o3 o4 : Option Value), k + a = n → fi (fun q => q = x + 2) h g → (∀ i j, i < 7 → j < 7 → (dn a 0 i j → zI g (x + 2) (7 * i + j) = iI (sgF bt mem i j)) ∧ (¬ dn a 0 i j → zI g (x + 2) (7 * i + j) = 0)) → (∀ i j, i < j → j < n → dn a 0 i j → ¬ evP bt mem i j) → PW (d + 3) 27 6 [some (.ref x), some (.ref y), some (.int (iI a)), o3, o4] [] g Q := by
    intro k
    induction k with
    | zero =>
      intro a g o3 o4 hk f hI hE
      have e : a = n := by omega
      subst e
      have N := gaF (ho.fi f)
      have gx : zI g x = zI h x := f.1.2.2.2.2.2.1 _ (by omega)
      refine vs_ok 4 ?_
      rw [show ((gRes 27).drop 6).take 4 = [.iload 2, .aload 0, .getfield 2040, .if_icmp .ge 74] from rfl]
      simp (disch := omega) only [vs_if_icmp, vs_getfield, vs_aload0, vs_iload2, vs_nil, gv_0, gv_1, gv_2, gv_3, pv_0, pv_1, va_rf_s, Nat.reduceDiv, Nat.reduceMod, Nat.reduceAdd, Nat.reduceMul, Int.reduceToNat, true_and, and_true, and_self, cP_eq, cP_ne, cP_lt, cP_ge, cP_gt, cP_le, eL_i, eL_l, eL_r, eL_n, Option.toList_none, Option.toList_some, List.nil_append, List.cons_append, kkI, llI, nnI, rrI, jjI, kkJ, llJ, nnJ, rrJ, iiJ, zIIs, zJJs, nEF, nET, and_false, false_and, jmin, jmax, catS_n, catS_i, catS_r, catS_l, Nat.reduceLeDiff, j1eq1, n21, jt0, jt1, Bool.false_eq_true, Classical.not_not, true_or, or_true, false_or, or_false, true_imp_iff, false_imp_iff, not_true_eq_false, not_false_eq_true, jif0, jif1, jifb, ltT, ltF, leT, leF, eqT, eqF, jlt, jle, jeq, jlt0, jle0, jeq0, jge0, jgt0, jinB, jnat, clt, cle, ceq, cgt, cge, lI_add, lI_sub, lI_mul, jadd, jsub, jmul, jneg, jtol, b010, b011, pv_2t, Int.toNat_natCast, Option.some.injEq, exists_eq_left', if_true, if_false, N, gx, h4]
      refine vs_ok 2 ?_
      rw [show ((gRes 27).drop 74).take 2 = [.iconst 1, .ireturn] from rfl]
      simp (disch := omega) only [vs_iconst, vs_ireturn, vs_nil, gv_0, gv_1, gv_2, gv_3, pv_0, pv_1, va_rf_s, Nat.reduceDiv, Nat.reduceMod, Nat.reduceAdd, Nat.reduceMul, Int.reduceToNat, true_and, and_true, and_self, cP_eq, cP_ne, cP_lt, cP_ge, cP_gt, cP_le, eL_i, eL_l, eL_r, eL_n, Option.toList_none, Option.toList_some, List.nil_append, List.cons_append, kkI, llI, nnI, rrI, jjI, kkJ, llJ, nnJ, rrJ, iiJ, zIIs, zJJs, nEF, nET, and_false, false_and, jmin, jmax, catS_n, catS_i, catS_r, catS_l, Nat.reduceLeDiff, j1eq1, n21, jt0, jt1, Bool.false_eq_true, Classical.not_not, true_or, or_true, false_or, or_false, true_imp_iff, false_imp_iff, not_true_eq_false, not_false_eq_true, jif0, jif1, jifb, ltT, ltF, leT, leF, eqT, eqF, jlt, jle, jeq, jlt0, jle0, jeq0, jge0, jgt0, jinB, jnat, clt, cle, ceq, cgt, cge, lI_add, lI_sub, lI_mul, jadd, jsub, jmul, jneg, jtol, b010, b011, pv_2t, Int.toNat_natCast, Option.some.injEq, exists_eq_left', if_true, if_false, show gRc 27 = 2 from rfl]
      refine hq1 (fun i j hij hj => hE i j hij hj (by simp only [dn]; omega)) g f (fun i j hi hj => ?_) fun i j hi hj hij => (hI i j hi hj).2 (by simp only [dn]; omega)
      by_cases c : i = j
      · rw [(hI i j (by omega) (by omega)).2 (by simp only [dn]; omega), c]
        unfold sgF
        rw [if_neg (by omega), if_neg (by omega)]
        rfl
      · exact (hI i j (by omega) (by omega)).1 (by simp only [dn]; omega)
    | succ k ih =>
      intro a g o3 o4 hk f hI hE
      have N := gaF (ho.fi f)
      have gx : zI g x = zI h x := f.1.2.2.2.2.2.1 _ (by omega)
      refine vs_ok 8 ?_
      rw [show ((gRes 27).drop 6).take 8 = [.iload 2, .aload 0, .getfield 2040, .if_icmp .ge 74, .iload 2, .iconst 1, .iadd, .istore 3] from rfl]
      simp (disch := omega) only [vs_iadd, vs_iconst, vs_if_icmp, vs_getfield, vs_aload0, vs_iload2, vs_istore3n, vs_istore3i, vs_istore3r, vs_istore3l, vs_nil, gv_0, gv_1, gv_2, gv_3, pv_0, pv_1, va_rf_s, Nat.reduceDiv, Nat.reduceMod, Nat.reduceAdd, Nat.reduceMul, Int.reduceToNat, true_and, and_true, and_self, cP_eq, cP_ne, cP_lt, cP_ge, cP_gt, cP_le, eL_i, eL_l, eL_r, eL_n, Option.toList_none, Option.toList_some, List.nil_append, List.cons_append, kkI, llI, nnI, rrI, jjI, kkJ, llJ, nnJ, rrJ, iiJ, zIIs, zJJs, nEF, nET, and_false, false_and, jmin, jmax, catS_n, catS_i, catS_r, catS_l, Nat.reduceLeDiff, j1eq1, n21, jt0, jt1, Bool.false_eq_true, Classical.not_not, true_or, or_true, false_or, or_false, true_imp_iff, false_imp_iff, not_true_eq_false, not_false_eq_true, jif0, jif1, jifb, ltT, ltF, leT, leF, eqT, eqF, jlt, jle, jeq, jlt0, jle0, jeq0, jge0, jgt0, jinB, jnat, clt, cle, ceq, cgt, cge, lI_add, lI_sub, lI_mul, jadd, jsub, jmul, jneg, jtol, b010, b011, pv_2t, Int.toNat_natCast, Option.some.injEq, exists_eq_left', if_true, if_false, N, gx, h4]
      refine li a (by omega) (n - (a + 1)) (a + 1) g _ (by omega) (by omega) f (fun i j hi hj => ⟨fun z => (hI i j hi hj).1 (by simp only [dn] at z ⊢; omega), fun z => (hI i j hi hj).2 (by simp only [dn] at z ⊢; omega)⟩) (fun i j hij hj z => hE i j hij hj (by simp only [dn] at z ⊢; omega)) fun g o3 o4 f hI hE => ?_
      refine vs_ok 2 ?_
      rw [show ((gRes 27).drop 72).take 2 = [.iinc 2 1, .goto 6] from rfl]
      simp (disch := omega) only [vs_goto, vs_iinc2n, vs_iinc2i, vs_iinc2r, vs_iinc2l, vs_nil, gv_0, gv_1, gv_2, gv_3, pv_0, pv_1, va_rf_s, Nat.reduceDiv, Nat.reduceMod, Nat.reduceAdd, Nat.reduceMul, Int.reduceToNat, true_and, and_true, and_self, cP_eq, cP_ne, cP_lt, cP_ge, cP_gt, cP_le, eL_i, eL_l, eL_r, eL_n, Option.toList_none, Option.toList_some, List.nil_append, List.cons_append, kkI, llI, nnI, rrI, jjI, kkJ, llJ, nnJ, rrJ, iiJ, zIIs, zJJs, nEF, nET, and_false, false_and, jmin, jmax, catS_n, catS_i, catS_r, catS_l, Nat.reduceLeDiff, j1eq1, n21, jt0, jt1, Bool.false_eq_true, Classical.not_not, true_or, or_true, false_or, or_false, true_imp_iff, false_imp_iff, not_true_eq_false, not_false_eq_true, jif0, jif1, jifb, ltT, ltF, leT, leF, eqT, eqF, jlt, jle, jeq, jlt0, jle0, jeq0, jge0, jgt0, jinB, jnat, clt, cle, ceq, cgt, cge, lI_add, lI_sub, lI_mul, jadd, jsub, jmul, jneg, jtol, b010, b011, pv_2t, Int.toNat_natCast, Option.some.injEq, exists_eq_left', if_true, if_false]
      exact ih (a + 1) g _ _ (by omega) f (fun i j hi hj => ⟨fun z => (hI i j hi hj).1 (by simp only [dn] at z ⊢; omega), fun z => (hI i j hi hj).2 (by simp only [dn] at z ⊢; omega)⟩) (fun i j hij hj z => hE i j hij hj (by simp only [dn] at z ⊢; omega))
  have N := gaF ho
  refine vs_ok 3 ?_
  rw [show ((gRes 27).drop 0).take 3 = [.aload 0, .getfield 2012, .iconst 0] from rfl]
  simp (disch := omega) only [vs_iconst, vs_getfield, vs_aload0, vs_nil, gv_0, gv_1, gv_2, gv_3, pv_0, pv_1, va_rf_s, Nat.reduceDiv, Nat.reduceMod, Nat.reduceAdd, Nat.reduceMul, Int.reduceToNat, true_and, and_true, and_self, cP_eq, cP_ne, cP_lt, cP_ge, cP_gt, cP_le, eL_i, eL_l, eL_r, eL_n, Option.toList_none, Option.toList_some, List.nil_append, List.cons_append, kkI, llI, nnI, rrI, jjI, kkJ, llJ, nnJ, rrJ, iiJ, zIIs, zJJs, nEF, nET, and_false, false_and, jmin, jmax, catS_n, catS_i, catS_r, catS_l, Nat.reduceLeDiff, j1eq1, n21, jt0, jt1, Bool.false_eq_true, Classical.not_not, true_or, or_true, false_or, or_false, true_imp_iff, false_imp_iff, not_true_eq_false, not_false_eq_true, jif0, jif1, jifb, ltT, ltF, leT, leF, eqT, eqF, jlt, jle, jeq, jlt0, jle0, jeq0, jge0, jgt0, jinB, jnat, clt, cle, ceq, cgt, cge, lI_add, lI_sub, lI_mul, jadd, jsub, jmul, jneg, jtol, b010, b011, pv_2t, Int.toNat_natCast, Option.some.injEq, exists_eq_left', if_true, if_false, N]
  refine PW.ss (r := []) rfl (le_b rfl) rfl rfl (le_b rfl) (le_b rfl) ?_
  refine t_fillI N.2.2.1.2.1 N.2.2.1.2.2.1 N.2.2.1.2.2.2 (by omega) fun g f hI => ⟨rfl, ⟨f.1.2.2.1, rfl⟩, ?_⟩
  refine vs_ok 2 ?_
  rw [show ((gRes 27).drop 4).take 2 = [.iconst 0, .istore 2] from rfl]
  simp (disch := omega) only [vs_iconst, vs_istore2n, vs_istore2i, vs_istore2r, vs_istore2l, vs_nil, gv_0, gv_1, gv_2, gv_3, pv_0, pv_1, va_rf_s, Nat.reduceDiv, Nat.reduceMod, Nat.reduceAdd, Nat.reduceMul, Int.reduceToNat, true_and, and_true, and_self, cP_eq, cP_ne, cP_lt, cP_ge, cP_gt, cP_le, eL_i, eL_l, eL_r, eL_n, Option.toList_none, Option.toList_some, List.nil_append, List.cons_append, kkI, llI, nnI, rrI, jjI, kkJ, llJ, nnJ, rrJ, iiJ, zIIs, zJJs, nEF, nET, and_false, false_and, jmin, jmax, catS_n, catS_i, catS_r, catS_l, Nat.reduceLeDiff, j1eq1, n21, jt0, jt1, Bool.false_eq_true, Classical.not_not, true_or, or_true, false_or, or_false, true_imp_iff, false_imp_iff, not_true_eq_false, not_false_eq_true, jif0, jif1, jifb, ltT, ltF, leT, leF, eqT, eqF, jlt, jle, jeq, jlt0, jle0, jeq0, jge0, jgt0, jinB, jnat, clt, cle, ceq, cgt, cge, lI_add, lI_sub, lI_mul, jadd, jsub, jmul, jneg, jtol, b010, b011, pv_2t, Int.toNat_natCast, Option.some.injEq, exists_eq_left', if_true, if_false]
  exact lo n 0 g _ _ (by omega) f (fun i j hi hj => ⟨fun z => absurd z (by simp only [dn]; omega), fun _ => hI _ (by omega)⟩) fun i j hij hj z => absurd z (by simp only [dn]; omega)
