/-! DiceRing: the tape -/
def tpS (h : Hp) (x len : Nat) (B : Nat → Int) : Prop := ((zK h x = 11 ∧ x < zN h) ∧ (zR h x 0 = some (x + 1) ∧ zK h (x + 1) = 14 ∧ x + 1 < zN h ∧ zL h (x + 1) = 540)) ∧ zI h x 1 = iI len ∧ len ≤ 540 ∧ (∀ i, i < 540 → zI h (x + 1) i = iI (B i)) ∧ ∀ i, 0 ≤ B i ∧ B i ≤ 255
theorem t_end {d : Nat} {h : Hp} {x len : Nat} {B : Nat → Int} {n : Int} {Q : Nat → Option Value → Hp → Prop} (ht : tpS h x len B) (hn : i32 n) (h0 : ¬ (0 ≤ n ∧ n ≤ len) → Q 0 (some (.int (iI 0))) h) (h1 : 0 ≤ n ∧ n ≤ len → ∀ g, fi (fun q => q = x) h g → tpS g x n.toNat B → (∀ i, i ≠ 1 → zI g x i = zI h x i) → Q 0 (some (.int (iI 1))) g) : PR d m_D_end [.ref x, .int (iI n)] h Q := by
  obtain ⟨N, hl, hm, hv, hb⟩ := ht
  have hn1 := hn.1
  have hn2 := hn.2
  show PW d 140 0 [some (.ref x), some (.int (iI n))] [] h Q
  by_cases c1 : n < 0
  · refine vs_ok 2 ?_
    rw [show ((gRes 140).drop 0).take 2 = [.iload 1, .ifCond .lt 6] from rfl]
    simp (disch := omega) only [vs_ifCond, vs_iload1, vs_nil, gv_0, gv_1, gv_2, gv_3, pv_0, pv_1, va_rf_s, Nat.reduceDiv, Nat.reduceMod, Nat.reduceAdd, Nat.reduceMul, Int.reduceToNat, true_and, and_true, and_self, cP_eq, cP_ne, cP_lt, cP_ge, cP_gt, cP_le, eL_i, eL_l, eL_r, eL_n, Option.toList_none, Option.toList_some, List.nil_append, List.cons_append, kkI, llI, nnI, rrI, jjI, kkJ, llJ, nnJ, rrJ, iiJ, zIIs, zJJs, nEF, nET, and_false, false_and, jmin, jmax, catS_n, catS_i, catS_r, catS_l, Nat.reduceLeDiff, j1eq1, n21, jt0, jt1, Bool.false_eq_true, Classical.not_not, true_or, or_true, false_or, or_false, true_imp_iff, false_imp_iff, not_true_eq_false, not_false_eq_true, jif0, jif1, jifb, ltT, ltF, leT, leF, eqT, eqF, jlt, jle, jeq, jlt0, jle0, jeq0, jge0, jgt0, jinB, jnat, clt, cle, ceq, cgt, cge, lI_add, lI_sub, lI_mul, jadd, jsub, jmul, jneg, jtol, b010, b011, pv_2t, Int.toNat_natCast, Option.some.injEq, exists_eq_left', if_true, if_false]
    refine vs_ok 2 ?_
    rw [show ((gRes 140).drop 6).take 2 = [.iconst 0, .ireturn] from rfl]
    simp (disch := omega) only [vs_iconst, vs_ireturn, vs_nil, gv_0, gv_1, gv_2, gv_3, pv_0, pv_1, va_rf_s, Nat.reduceDiv, Nat.reduceMod, Nat.reduceAdd, Nat.reduceMul, Int.reduceToNat, true_and, and_true, and_self, cP_eq, cP_ne, cP_lt, cP_ge, cP_gt, cP_le, eL_i, eL_l, eL_r, eL_n, Option.toList_none, Option.toList_some, List.nil_append, List.cons_append, kkI, llI, nnI, rrI, jjI, kkJ, llJ, nnJ, rrJ, iiJ, zIIs, zJJs, nEF, nET, and_false, false_and, jmin, jmax, catS_n, catS_i, catS_r, catS_l, Nat.reduceLeDiff, j1eq1, n21, jt0, jt1, Bool.false_eq_true, Classical.not_not, true_or, or_true, false_or, or_false, true_imp_iff, false_imp_iff, not_true_eq_false, not_false_eq_true, jif0, jif1, jifb, ltT, ltF, leT, leF, eqT, eqF, jlt, jle, jeq, jlt0, jle0, jeq0, jge0, jgt0, jinB, jnat, clt, cle, ceq, cgt, cge, lI_add, lI_sub, lI_mul, jadd, jsub, jmul, jneg, jtol, b010, b011, pv_2t, Int.toNat_natCast, Option.some.injEq, exists_eq_left', if_true, if_false, show gRc 140 = 2 from rfl]
    exact h0 (by omega)
  · by_cases c2 : n ≤ len
    · refine vs_ok 8 ?_
      rw [show ((gRes 140).drop 0).take 8 = [.iload 1, .ifCond .lt 6, .iload 1, .aload 0, .getfield 11010, .if_icmp .le 8, .iconst 0, .ireturn] from rfl]
      simp (disch := omega) only [vs_iconst, vs_if_icmp, vs_ifCond, vs_getfield, vs_ireturn, vs_aload0, vs_iload1, vs_nil, gv_0, gv_1, gv_2, gv_3, pv_0, pv_1, va_rf_s, Nat.reduceDiv, Nat.reduceMod, Nat.reduceAdd, Nat.reduceMul, Int.reduceToNat, true_and, and_true, and_self, cP_eq, cP_ne, cP_lt, cP_ge, cP_gt, cP_le, eL_i, eL_l, eL_r, eL_n, Option.toList_none, Option.toList_some, List.nil_append, List.cons_append, kkI, llI, nnI, rrI, jjI, kkJ, llJ, nnJ, rrJ, iiJ, zIIs, zJJs, nEF, nET, and_false, false_and, jmin, jmax, catS_n, catS_i, catS_r, catS_l, Nat.reduceLeDiff, j1eq1, n21, jt0, jt1, Bool.false_eq_true, Classical.not_not, true_or, or_true, false_or, or_false, true_imp_iff, false_imp_iff, not_true_eq_false, not_false_eq_true, jif0, jif1, jifb, ltT, ltF, leT, leF, eqT, eqF, jlt, jle, jeq, jlt0, jle0, jeq0, jge0, jgt0, jinB, jnat, clt, cle, ceq, cgt, cge, lI_add, lI_sub, lI_mul, jadd, jsub, jmul, jneg, jtol, b010, b011, pv_2t, Int.toNat_natCast, Option.some.injEq, exists_eq_left', if_true, if_false, N, hl, show gRc 140 = 2 from rfl]
      refine vs_ok 5 ?_
      rw [show ((gRes 140).drop 8).take 5 = [.aload 0, .iload 1, .putfield 11010, .iconst 1, .ireturn] from rfl]
      simp (disch := omega) only [vs_iconst, vs_putfield, vs_ireturn, vs_aload0, vs_iload1, vs_nil, gv_0, gv_1, gv_2, gv_3, pv_0, pv_1, va_rf_s, Nat.reduceDiv, Nat.reduceMod, Nat.reduceAdd, Nat.reduceMul, Int.reduceToNat, true_and, and_true, and_self, cP_eq, cP_ne, cP_lt, cP_ge, cP_gt, cP_le, eL_i, eL_l, eL_r, eL_n, Option.toList_none, Option.toList_some, List.nil_append, List.cons_append, kkI, llI, nnI, rrI, jjI, kkJ, llJ, nnJ, rrJ, iiJ, zIIs, zJJs, nEF, nET, and_false, false_and, jmin, jmax, catS_n, catS_i, catS_r, catS_l, Nat.reduceLeDiff, j1eq1, n21, jt0, jt1, Bool.false_eq_true, Classical.not_not, true_or, or_true, false_or, or_false, true_imp_iff, false_imp_iff, not_true_eq_false, not_false_eq_true, jif0, jif1, jifb, ltT, ltF, leT, leF, eqT, eqF, jlt, jle, jeq, jlt0, jle0, jeq0, jge0, jgt0, jinB, jnat, clt, cle, ceq, cgt, cge, lI_add, lI_sub, lI_mul, jadd, jsub, jmul, jneg, jtol, b010, b011, pv_2t, Int.toNat_natCast, Option.some.injEq, exists_eq_left', if_true, if_false, N, show gRc 140 = 2 from rfl]
      refine h1 (by omega) _ (fi_I rfl) ?_ fun i hi => by rw [zI_s, if_neg fun e => hi e.2]
      exact ⟨N, by rw [zI_s, if_pos ⟨rfl, rfl⟩, show ((n.toNat : Nat) : Int) = n by omega], by omega, fun i hi => by rw [zI_s, if_neg fun e => absurd e.1 (by omega)]; exact hv i hi, hb⟩
    · refine vs_ok 6 ?_
      rw [show ((gRes 140).drop 0).take 6 = [.iload 1, .ifCond .lt 6, .iload 1, .aload 0, .getfield 11010, .if_icmp .le 8] from rfl]
      simp (disch := omega) only [vs_if_icmp, vs_ifCond, vs_getfield, vs_aload0, vs_iload1, vs_nil, gv_0, gv_1, gv_2, gv_3, pv_0, pv_1, va_rf_s, Nat.reduceDiv, Nat.reduceMod, Nat.reduceAdd, Nat.reduceMul, Int.reduceToNat, true_and, and_true, and_self, cP_eq, cP_ne, cP_lt, cP_ge, cP_gt, cP_le, eL_i, eL_l, eL_r, eL_n, Option.toList_none, Option.toList_some, List.nil_append, List.cons_append, kkI, llI, nnI, rrI, jjI, kkJ, llJ, nnJ, rrJ, iiJ, zIIs, zJJs, nEF, nET, and_false, false_and, jmin, jmax, catS_n, catS_i, catS_r, catS_l, Nat.reduceLeDiff, j1eq1, n21, jt0, jt1, Bool.false_eq_true, Classical.not_not, true_or, or_true, false_or, or_false, true_imp_iff, false_imp_iff, not_true_eq_false, not_false_eq_true, jif0, jif1, jifb, ltT, ltF, leT, leF, eqT, eqF, jlt, jle, jeq, jlt0, jle0, jeq0, jge0, jgt0, jinB, jnat, clt, cle, ceq, cgt, cge, lI_add, lI_sub, lI_mul, jadd, jsub, jmul, jneg, jtol, b010, b011, pv_2t, Int.toNat_natCast, Option.some.injEq, exists_eq_left', if_true, if_false, N, hl]
      refine vs_ok 2 ?_
      rw [show ((gRes 140).drop 6).take 2 = [.iconst 0, .ireturn] from rfl]
      simp (disch := omega) only [vs_iconst, vs_ireturn, vs_nil, gv_0, gv_1, gv_2, gv_3, pv_0, pv_1, va_rf_s, Nat.reduceDiv, Nat.reduceMod, Nat.reduceAdd, Nat.reduceMul, Int.reduceToNat, true_and, and_true, and_self, cP_eq, cP_ne, cP_lt, cP_ge, cP_gt, cP_le, eL_i, eL_l, eL_r, eL_n, Option.toList_none, Option.toList_some, List.nil_append, List.cons_append, kkI, llI, nnI, rrI, jjI, kkJ, llJ, nnJ, rrJ, iiJ, zIIs, zJJs, nEF, nET, and_false, false_and, jmin, jmax, catS_n, catS_i, catS_r, catS_l, Nat.reduceLeDiff, j1eq1, n21, jt0, jt1, Bool.false_eq_true, Classical.not_not, true_or, or_true, false_or, or_false, true_imp_iff, false_imp_iff, not_true_eq_false, not_false_eq_true, jif0, jif1, jifb, ltT, ltF, leT, leF, eqT, eqF, jlt, jle, jeq, jlt0, jle0, jeq0, jge0, jgt0, jinB, jnat, clt, cle, ceq, cgt, cge, lI_add, lI_sub, lI_mul, jadd, jsub, jmul, jneg, jtol, b010, b011, pv_2t, Int.toNat_natCast, Option.some.injEq, exists_eq_left', if_true, if_false, show gRc 140 = 2 from rfl]
      exact h0 (by omega)
theorem t_takeTape {d : Nat} {h : Hp} {x len : Nat} {B : Nat → Int} {Q : Nat → Option Value → Hp → Prop} (ht : tpS h x len B) (hq : ∀ g, fi (fun q => q = x) h g → tpS g x 0 B → (∀ i, i ≠ 1 → zI g x i = zI h x i) → Q 0 (some (.int (iI len))) g) : PR d m_D_takeTape [.ref x] h Q := by
  obtain ⟨N, hl, hm, hv, hb⟩ := ht
  show PW d 141 0 [some (.ref x), none] [] h Q
  refine vs_ok 8 ?_
  rw [show ((gRes 141).drop 0).take 8 = [.aload 0, .getfield 11010, .istore 1, .aload 0, .iconst 0, .putfield 11010, .iload 1, .ireturn] from rfl]
  simp (disch := omega) only [vs_iconst, vs_getfield, vs_putfield, vs_ireturn, vs_aload0, vs_iload1, vs_istore1n, vs_istore1i, vs_istore1r, vs_istore1l, vs_nil, gv_0, gv_1, gv_2, gv_3, pv_0, pv_1, va_rf_s, Nat.reduceDiv, Nat.reduceMod, Nat.reduceAdd, Nat.reduceMul, Int.reduceToNat, true_and, and_true, and_self, cP_eq, cP_ne, cP_lt, cP_ge, cP_gt, cP_le, eL_i, eL_l, eL_r, eL_n, Option.toList_none, Option.toList_some, List.nil_append, List.cons_append, kkI, llI, nnI, rrI, jjI, kkJ, llJ, nnJ, rrJ, iiJ, zIIs, zJJs, nEF, nET, and_false, false_and, jmin, jmax, catS_n, catS_i, catS_r, catS_l, Nat.reduceLeDiff, j1eq1, n21, jt0, jt1, Bool.false_eq_true, Classical.not_not, true_or, or_true, false_or, or_false, true_imp_iff, false_imp_iff, not_true_eq_false, not_false_eq_true, jif0, jif1, jifb, ltT, ltF, leT, leF, eqT, eqF, jlt, jle, jeq, jlt0, jle0, jeq0, jge0, jgt0, jinB, jnat, clt, cle, ceq, cgt, cge, lI_add, lI_sub, lI_mul, jadd, jsub, jmul, jneg, jtol, b010, b011, pv_2t, Int.toNat_natCast, Option.some.injEq, exists_eq_left', if_true, if_false, N, hl, show gRc 141 = 1 from rfl]
  refine hq _ (fi_I rfl) ?_ fun i hi => by rw [zI_s, if_neg fun e => hi e.2]
  exact ⟨N, by rw [zI_s, if_pos ⟨rfl, rfl⟩]; rfl, by omega, fun i hi => by rw [zI_s, if_neg fun e => absurd e.1 (by omega)]; exact hv i hi, hb⟩
theorem t_fault {d : Nat} {h : Hp} {x : Nat} {f : Int} {Q : Nat → Option Value → Hp → Prop} (hx : zK h x = 11 ∧ x < zN h) (hf : zI h x 4 = iI f) (hq : Q 0 (some (.int (iI f))) h) : PR d m_D_fault [.ref x] h Q := by
  show PW d 143 0 [some (.ref x)] [] h Q
  refine vs_ok 3 ?_
  rw [show ((gRes 143).drop 0).take 3 = [.aload 0, .getfield 11040, .ireturn] from rfl]
  simp (disch := omega) only [vs_getfield, vs_ireturn, vs_aload0, vs_nil, gv_0, gv_1, gv_2, gv_3, pv_0, pv_1, va_rf_s, Nat.reduceDiv, Nat.reduceMod, Nat.reduceAdd, Nat.reduceMul, Int.reduceToNat, true_and, and_true, and_self, cP_eq, cP_ne, cP_lt, cP_ge, cP_gt, cP_le, eL_i, eL_l, eL_r, eL_n, Option.toList_none, Option.toList_some, List.nil_append, List.cons_append, kkI, llI, nnI, rrI, jjI, kkJ, llJ, nnJ, rrJ, iiJ, zIIs, zJJs, nEF, nET, and_false, false_and, jmin, jmax, catS_n, catS_i, catS_r, catS_l, Nat.reduceLeDiff, j1eq1, n21, jt0, jt1, Bool.false_eq_true, Classical.not_not, true_or, or_true, false_or, or_false, true_imp_iff, false_imp_iff, not_true_eq_false, not_false_eq_true, jif0, jif1, jifb, ltT, ltF, leT, leF, eqT, eqF, jlt, jle, jeq, jlt0, jle0, jeq0, jge0, jgt0, jinB, jnat, clt, cle, ceq, cgt, cge, lI_add, lI_sub, lI_mul, jadd, jsub, jmul, jneg, jtol, b010, b011, pv_2t, Int.toNat_natCast, Option.some.injEq, exists_eq_left', if_true, if_false, hx, hf, show gRc 143 = 1 from rfl]
  exact hq
/-- byte k of a fed number, the highest first -/
abbrev by4 (v : Int) (b : Nat) : Int := v / 2 ^ b % 256
theorem jushr {v : Int} (hv : i32 v) {b : Nat} (hb : b = 24 ∨ b = 16 ∨ b = 8 ∨ b = 0) : ((iI v).toUInt32 >>> ((iI b).toUInt32 &&& Int32.toUInt32 31)).toInt32 &&& Int32.ofInt 255 = iI (by4 v b) := by
  have h1 := hv.1
  have h2 := hv.2
  apply Int32.toBitVec_inj.mp
  apply BitVec.eq_of_toNat_eq
  rcases hb with rfl | rfl | rfl | rfl <;> simp [by4, iI] <;> rw [show (255 : Nat) = 2 ^ 8 - 1 from rfl, Nat.and_two_pow_sub_one_eq_mod] <;> (try rw [Nat.shiftRight_eq_div_pow]) <;> omega
theorem by4_b (v : Int) (b : Nat) : 0 ≤ by4 v b ∧ by4 v b ≤ 255 := by
  unfold by4
  omega
theorem of540 : Int32.ofNat 540 = iI 540 := rfl
/-- tape B with the first k bytes of number v laid at len -/
def feB (B : Nat → Int) (len : Nat) (v : Int) (k i : Nat) : Int := if len ≤ i ∧ i < len + k then by4 v (24 - 8 * (i - len)) else B i
theorem feB_0 (B : Nat → Int) (len : Nat) (v : Int) : feB B len v 0 = B := by
  funext i
  exact if_neg (by omega)
theorem feB_b {B : Nat → Int} (hb : ∀ i, 0 ≤ B i ∧ B i ≤ 255) (len : Nat) (v : Int) (k i : Nat) : 0 ≤ feB B len v k i ∧ feB B len v k i ≤ 255 := by
  unfold feB
  split
  · exact by4_b _ _
  · exact hb i
theorem feB_s (B : Nat → Int) (len : Nat) (v : Int) (k i : Nat) : feB B len v (k + 1) i = if i = len + k then by4 v (24 - 8 * k) else feB B len v k i := by
  unfold feB
  by_cases c : i = len + k
  · rw [if_pos (by omega), if_pos c, show i - len = k by omega]
  · rw [if_neg c]
    by_cases c2 : len ≤ i ∧ i < len + k
    · rw [if_pos (by omega), if_pos c2]
    · rw [if_neg (by omega), if_neg c2]
theorem t_feedNumber {d : Nat} {h : Hp} {x len : Nat} {B : Nat → Int} {v : Int} {Q : Nat → Option Value → Hp → Prop} (ht : tpS h x len B) (hv : i32 v) (hl : len + 4 ≤ 540) (hq : ∀ g, fi (fun q => q = x ∨ q = x + 1) h g → tpS g x (len + 4) (feB B len v 4) → (∀ i, i ≠ 1 → zI g x i = zI h x i) → Q 0 none g) : PR d m_D_feedNumber [.ref x, .int (iI v)] h Q := by
  show PW d 139 0 [some (.ref x), some (.int (iI v)), none] [] h Q
  have lp : ∀ (j k : Nat) (g : Hp), j + k = 4 → fi (fun q => q = x ∨ q = x + 1) h g → tpS g x (len + k) (feB B len v k) → (∀ i, i ≠ 1 → zI g x i = zI h x i) → PW d 139 2 [some (.ref x), some (.int (iI v)), some (.int (iI (24 - 8 * (k : Int))))] [] g Q := by
    intro j
    induction j with
    | zero =>
      intro k g hj f t e
      have e4 : k = 4 := by omega
      subst e4
      refine vs_ok 2 ?_
      rw [show ((gRes 139).drop 2).take 2 = [.iload 2, .ifCond .lt 28] from rfl]
      simp (disch := omega) only [vs_ifCond, vs_iload2, vs_nil, gv_0, gv_1, gv_2, gv_3, pv_0, pv_1, va_rf_s, Nat.reduceDiv, Nat.reduceMod, Nat.reduceAdd, Nat.reduceMul, Int.reduceToNat, true_and, and_true, and_self, cP_eq, cP_ne, cP_lt, cP_ge, cP_gt, cP_le, eL_i, eL_l, eL_r, eL_n, Option.toList_none, Option.toList_some, List.nil_append, List.cons_append, kkI, llI, nnI, rrI, jjI, kkJ, llJ, nnJ, rrJ, iiJ, zIIs, zJJs, nEF, nET, and_false, false_and, jmin, jmax, catS_n, catS_i, catS_r, catS_l, Nat.reduceLeDiff, j1eq1, n21, jt0, jt1, Bool.false_eq_true, Classical.not_not, true_or, or_true, false_or, or_false, true_imp_iff, false_imp_iff, not_true_eq_false, not_false_eq_true, jif0, jif1, jifb, ltT, ltF, leT, leF, eqT, eqF, jlt, jle, jeq, jlt0, jle0, jeq0, jge0, jgt0, jinB, jnat, clt, cle, ceq, cgt, cge, lI_add, lI_sub, lI_mul, jadd, jsub, jmul, jneg, jtol, b010, b011, pv_2t, Int.toNat_natCast, Option.some.injEq, exists_eq_left', if_true, if_false]
      refine vs_ok 1 ?_
      rw [show ((gRes 139).drop 28).take 1 = [.return_] from rfl]
      simp (disch := omega) only [vs_return_, vs_nil, gv_0, gv_1, gv_2, gv_3, pv_0, pv_1, va_rf_s, Nat.reduceDiv, Nat.reduceMod, Nat.reduceAdd, Nat.reduceMul, Int.reduceToNat, true_and, and_true, and_self, cP_eq, cP_ne, cP_lt, cP_ge, cP_gt, cP_le, eL_i, eL_l, eL_r, eL_n, Option.toList_none, Option.toList_some, List.nil_append, List.cons_append, kkI, llI, nnI, rrI, jjI, kkJ, llJ, nnJ, rrJ, iiJ, zIIs, zJJs, nEF, nET, and_false, false_and, jmin, jmax, catS_n, catS_i, catS_r, catS_l, Nat.reduceLeDiff, j1eq1, n21, jt0, jt1, Bool.false_eq_true, Classical.not_not, true_or, or_true, false_or, or_false, true_imp_iff, false_imp_iff, not_true_eq_false, not_false_eq_true, jif0, jif1, jifb, ltT, ltF, leT, leF, eqT, eqF, jlt, jle, jeq, jlt0, jle0, jeq0, jge0, jgt0, jinB, jnat, clt, cle, ceq, cgt, cge, lI_add, lI_sub, lI_mul, jadd, jsub, jmul, jneg, jtol, b010, b011, pv_2t, Int.toNat_natCast, Option.some.injEq, exists_eq_left', if_true, if_false, show gRc 139 = 0 from rfl]
      exact hq g f t e
    | succ j ih =>
      intro k g hj f t e
      obtain ⟨N, hn, hm, hb, hc⟩ := t
      have hk : (24 - 8 * (k : Int)) = ((24 - 8 * k : Nat) : Int) := by omega
      refine vs_ok 26 ?_
      rw [show ((gRes 139).drop 2).take 26 = [.iload 2, .ifCond .lt 28, .aload 0, .getfield 11010, .aload 0, .getfield 11002, .arraylength, .if_icmp .ge 26, .aload 0, .getfield 11002, .aload 0, .getfield 11010, .iload 1, .iload 2, .iushr, .iconst 255, .iand, .iastore, .aload 0, .dup, .getfield 11010, .iconst 1, .iadd, .putfield 11010, .iinc 2 (-8), .goto 2] from rfl]
      simp (disch := omega) only [vs_iadd, vs_iconst, vs_goto, vs_if_icmp, vs_ifCond, vs_getfield, vs_putfield, vs_iastore, vs_arraylength, vs_dupi, vs_dupr, vs_aload0, vs_iload1, vs_iload2, vs_iinc2n, vs_iinc2i, vs_iinc2r, vs_iinc2l, vs_nil, gv_0, gv_1, gv_2, gv_3, pv_0, pv_1, va_rf_s, vs_iand, vs_iushr, Nat.reduceDiv, Nat.reduceMod, Nat.reduceAdd, Nat.reduceMul, Int.reduceToNat, true_and, and_true, and_self, cP_eq, cP_ne, cP_lt, cP_ge, cP_gt, cP_le, eL_i, eL_l, eL_r, eL_n, Option.toList_none, Option.toList_some, List.nil_append, List.cons_append, kkI, llI, nnI, rrI, jjI, kkJ, llJ, nnJ, rrJ, iiJ, zIIs, zJJs, nEF, nET, and_false, false_and, jmin, jmax, catS_n, catS_i, catS_r, catS_l, Nat.reduceLeDiff, j1eq1, n21, jt0, jt1, Bool.false_eq_true, Classical.not_not, true_or, or_true, false_or, or_false, true_imp_iff, false_imp_iff, not_true_eq_false, not_false_eq_true, jif0, jif1, jifb, ltT, ltF, leT, leF, eqT, eqF, jlt, jle, jeq, jlt0, jle0, jeq0, jge0, jgt0, jinB, jnat, clt, cle, ceq, cgt, cge, lI_add, lI_sub, lI_mul, jadd, jsub, jmul, jneg, jtol, b010, b011, pv_2t, Int.toNat_natCast, Option.some.injEq, exists_eq_left', if_true, if_false, N, hn, hk, of540]
      rw [show (Int32.ofInt (((24 - 8 * k : Nat) : Int) + -8)) = iI (24 - 8 * ((k + 1 : Nat) : Int)) from congrArg _ (by omega), jushr hv (show 24 - 8 * k = 24 ∨ 24 - 8 * k = 16 ∨ 24 - 8 * k = 8 ∨ 24 - 8 * k = 0 by omega)]
      refine ih (k + 1) _ (by omega) ((f.I (Or.inr rfl)).I (Or.inl rfl)) ⟨N, ?_, by omega, fun i hi => ?_, feB_b (by
        have := ht.2.2.2.2
        exact this) _ _ _⟩ fun i hi => ?_
      · rw [zI_s, if_pos ⟨rfl, rfl⟩]
        exact congrArg _ (by omega)
      · rw [zI_s, if_neg fun z => absurd z.1 (by omega), zI_s, feB_s]
        by_cases c : i = len + k
        · rw [if_pos ⟨rfl, c⟩, if_pos c]
        · rw [if_neg fun z => c z.2, if_neg c]
          exact hb i hi
      · rw [zI_s, if_neg fun z => hi z.2, zI_s, if_neg fun z => absurd z.1 (by omega)]
        exact e i hi
  refine vs_ok 2 ?_
  rw [show ((gRes 139).drop 0).take 2 = [.iconst 24, .istore 2] from rfl]
  simp (disch := omega) only [vs_iconst, vs_istore2n, vs_istore2i, vs_istore2r, vs_istore2l, vs_nil, gv_0, gv_1, gv_2, gv_3, pv_0, pv_1, va_rf_s, Nat.reduceDiv, Nat.reduceMod, Nat.reduceAdd, Nat.reduceMul, Int.reduceToNat, true_and, and_true, and_self, cP_eq, cP_ne, cP_lt, cP_ge, cP_gt, cP_le, eL_i, eL_l, eL_r, eL_n, Option.toList_none, Option.toList_some, List.nil_append, List.cons_append, kkI, llI, nnI, rrI, jjI, kkJ, llJ, nnJ, rrJ, iiJ, zIIs, zJJs, nEF, nET, and_false, false_and, jmin, jmax, catS_n, catS_i, catS_r, catS_l, Nat.reduceLeDiff, j1eq1, n21, jt0, jt1, Bool.false_eq_true, Classical.not_not, true_or, or_true, false_or, or_false, true_imp_iff, false_imp_iff, not_true_eq_false, not_false_eq_true, jif0, jif1, jifb, ltT, ltF, leT, leF, eqT, eqF, jlt, jle, jeq, jlt0, jle0, jeq0, jge0, jgt0, jinB, jnat, clt, cle, ceq, cgt, cge, lI_add, lI_sub, lI_mul, jadd, jsub, jmul, jneg, jtol, b010, b011, pv_2t, Int.toNat_natCast, Option.some.injEq, exists_eq_left', if_true, if_false]
  exact lp 4 0 h rfl fi.rf (by rw [feB_0]; exact ht) fun i hi => rfl
/-- the tape once five numbers have been fed -/
def fe5 (B : Nat → Int) (len : Nat) (a b c e f : Int) : Nat → Int := feB (feB (feB (feB (feB B len a 4) (len + 4) b 4) (len + 8) c 4) (len + 12) e 4) (len + 16) f 4
theorem t_feed {d : Nat} {h : Hp} {x len : Nat} {B : Nat → Int} {a b c e f : Int} {Q : Nat → Option Value → Hp → Prop} (ht : tpS h x len B) (ha : i32 a) (hb : i32 b) (hc : i32 c) (he : i32 e) (hf : i32 f) (h0 : 520 < len → Q 0 (some (.int (iI (-1)))) h) (h1 : len ≤ 520 → ∀ g, fi (fun q => q = x ∨ q = x + 1) h g → tpS g x (len + 20) (fe5 B len a b c e f) → (∀ i, i ≠ 1 → zI g x i = zI h x i) → Q 0 (some (.int (iI ((len + 20 : Nat) : Int)))) g) : PR (d + 1) m_D_feed [.ref x, .int (iI a), .int (iI b), .int (iI c), .int (iI e), .int (iI f)] h Q := by
  have N := ht.1
  have hl := ht.2.1
  have hm := ht.2.2.1
  show PW (d + 1) 138 0 [some (.ref x), some (.int (iI a)), some (.int (iI b)), some (.int (iI c)), some (.int (iI e)), some (.int (iI f))] [] h Q
  by_cases c1 : len ≤ 520
  · refine vs_ok 6 ?_
    rw [show ((gRes 138).drop 0).take 6 = [.aload 0, .getfield 11010, .iconst 20, .iadd, .iconst 540, .if_icmp .le 8] from rfl]
    simp (disch := omega) only [vs_iadd, vs_iconst, vs_if_icmp, vs_getfield, vs_aload0, vs_nil, gv_0, gv_1, gv_2, gv_3, pv_0, pv_1, va_rf_s, Nat.reduceDiv, Nat.reduceMod, Nat.reduceAdd, Nat.reduceMul, Int.reduceToNat, true_and, and_true, and_self, cP_eq, cP_ne, cP_lt, cP_ge, cP_gt, cP_le, eL_i, eL_l, eL_r, eL_n, Option.toList_none, Option.toList_some, List.nil_append, List.cons_append, kkI, llI, nnI, rrI, jjI, kkJ, llJ, nnJ, rrJ, iiJ, zIIs, zJJs, nEF, nET, and_false, false_and, jmin, jmax, catS_n, catS_i, catS_r, catS_l, Nat.reduceLeDiff, j1eq1, n21, jt0, jt1, Bool.false_eq_true, Classical.not_not, true_or, or_true, false_or, or_false, true_imp_iff, false_imp_iff, not_true_eq_false, not_false_eq_true, jif0, jif1, jifb, ltT, ltF, leT, leF, eqT, eqF, jlt, jle, jeq, jlt0, jle0, jeq0, jge0, jgt0, jinB, jnat, clt, cle, ceq, cgt, cge, lI_add, lI_sub, lI_mul, jadd, jsub, jmul, jneg, jtol, b010, b011, pv_2t, Int.toNat_natCast, Option.some.injEq, exists_eq_left', if_true, if_false, N, hl]
    refine vs_ok 2 ?_
    rw [show ((gRes 138).drop 8).take 2 = [.aload 0, .iload 1] from rfl]
    simp (disch := omega) only [vs_aload0, vs_iload1, vs_nil, gv_0, gv_1, gv_2, gv_3, pv_0, pv_1, va_rf_s, Nat.reduceDiv, Nat.reduceMod, Nat.reduceAdd, Nat.reduceMul, Int.reduceToNat, true_and, and_true, and_self, cP_eq, cP_ne, cP_lt, cP_ge, cP_gt, cP_le, eL_i, eL_l, eL_r, eL_n, Option.toList_none, Option.toList_some, List.nil_append, List.cons_append, kkI, llI, nnI, rrI, jjI, kkJ, llJ, nnJ, rrJ, iiJ, zIIs, zJJs, nEF, nET, and_false, false_and, jmin, jmax, catS_n, catS_i, catS_r, catS_l, Nat.reduceLeDiff, j1eq1, n21, jt0, jt1, Bool.false_eq_true, Classical.not_not, true_or, or_true, false_or, or_false, true_imp_iff, false_imp_iff, not_true_eq_false, not_false_eq_true, jif0, jif1, jifb, ltT, ltF, leT, leF, eqT, eqF, jlt, jle, jeq, jlt0, jle0, jeq0, jge0, jgt0, jinB, jnat, clt, cle, ceq, cgt, cge, lI_add, lI_sub, lI_mul, jadd, jsub, jmul, jneg, jtol, b010, b011, pv_2t, Int.toNat_natCast, Option.some.injEq, exists_eq_left', if_true, if_false]
    refine PW.iv rfl rfl rfl N.1.1 N.1.2 (le_b rfl) (le_b rfl) ?_
    refine t_feedNumber ht ha (by omega) fun g1 f1 t1 e1 => ⟨rfl, ⟨f1.1.2.2.1, rfl⟩, ?_⟩
    refine vs_ok 2 ?_
    rw [show ((gRes 138).drop 11).take 2 = [.aload 0, .iload 2] from rfl]
    simp (disch := omega) only [vs_aload0, vs_iload2, vs_nil, gv_0, gv_1, gv_2, gv_3, pv_0, pv_1, va_rf_s, Nat.reduceDiv, Nat.reduceMod, Nat.reduceAdd, Nat.reduceMul, Int.reduceToNat, true_and, and_true, and_self, cP_eq, cP_ne, cP_lt, cP_ge, cP_gt, cP_le, eL_i, eL_l, eL_r, eL_n, Option.toList_none, Option.toList_some, List.nil_append, List.cons_append, kkI, llI, nnI, rrI, jjI, kkJ, llJ, nnJ, rrJ, iiJ, zIIs, zJJs, nEF, nET, and_false, false_and, jmin, jmax, catS_n, catS_i, catS_r, catS_l, Nat.reduceLeDiff, j1eq1, n21, jt0, jt1, Bool.false_eq_true, Classical.not_not, true_or, or_true, false_or, or_false, true_imp_iff, false_imp_iff, not_true_eq_false, not_false_eq_true, jif0, jif1, jifb, ltT, ltF, leT, leF, eqT, eqF, jlt, jle, jeq, jlt0, jle0, jeq0, jge0, jgt0, jinB, jnat, clt, cle, ceq, cgt, cge, lI_add, lI_sub, lI_mul, jadd, jsub, jmul, jneg, jtol, b010, b011, pv_2t, Int.toNat_natCast, Option.some.injEq, exists_eq_left', if_true, if_false]
    refine PW.iv rfl rfl rfl t1.1.1.1 t1.1.1.2 (le_b rfl) (le_b rfl) ?_
    refine t_feedNumber t1 hb (by omega) fun g2 f2 t2 e2 => ⟨rfl, ⟨f2.1.2.2.1, rfl⟩, ?_⟩
    refine vs_ok 2 ?_
    rw [show ((gRes 138).drop 14).take 2 = [.aload 0, .iload 3] from rfl]
    simp (disch := omega) only [vs_aload0, vs_iload3, vs_nil, gv_0, gv_1, gv_2, gv_3, pv_0, pv_1, va_rf_s, Nat.reduceDiv, Nat.reduceMod, Nat.reduceAdd, Nat.reduceMul, Int.reduceToNat, true_and, and_true, and_self, cP_eq, cP_ne, cP_lt, cP_ge, cP_gt, cP_le, eL_i, eL_l, eL_r, eL_n, Option.toList_none, Option.toList_some, List.nil_append, List.cons_append, kkI, llI, nnI, rrI, jjI, kkJ, llJ, nnJ, rrJ, iiJ, zIIs, zJJs, nEF, nET, and_false, false_and, jmin, jmax, catS_n, catS_i, catS_r, catS_l, Nat.reduceLeDiff, j1eq1, n21, jt0, jt1, Bool.false_eq_true, Classical.not_not, true_or, or_true, false_or, or_false, true_imp_iff, false_imp_iff, not_true_eq_false, not_false_eq_true, jif0, jif1, jifb, ltT, ltF, leT, leF, eqT, eqF, jlt, jle, jeq, jlt0, jle0, jeq0, jge0, jgt0, jinB, jnat, clt, cle, ceq, cgt, cge, lI_add, lI_sub, lI_mul, jadd, jsub, jmul, jneg, jtol, b010, b011, pv_2t, Int.toNat_natCast, Option.some.injEq, exists_eq_left', if_true, if_false]
    refine PW.iv rfl rfl rfl t2.1.1.1 t2.1.1.2 (le_b rfl) (le_b rfl) ?_
    refine t_feedNumber t2 hc (by omega) fun g3 f3 t3 e3 => ⟨rfl, ⟨f3.1.2.2.1, rfl⟩, ?_⟩
    refine vs_ok 2 ?_
    rw [show ((gRes 138).drop 17).take 2 = [.aload 0, .iload 4] from rfl]
    simp (disch := omega) only [vs_aload0, vs_iload4, vs_nil, gv_0, gv_1, gv_2, gv_3, pv_0, pv_1, va_rf_s, Nat.reduceDiv, Nat.reduceMod, Nat.reduceAdd, Nat.reduceMul, Int.reduceToNat, true_and, and_true, and_self, cP_eq, cP_ne, cP_lt, cP_ge, cP_gt, cP_le, eL_i, eL_l, eL_r, eL_n, Option.toList_none, Option.toList_some, List.nil_append, List.cons_append, kkI, llI, nnI, rrI, jjI, kkJ, llJ, nnJ, rrJ, iiJ, zIIs, zJJs, nEF, nET, and_false, false_and, jmin, jmax, catS_n, catS_i, catS_r, catS_l, Nat.reduceLeDiff, j1eq1, n21, jt0, jt1, Bool.false_eq_true, Classical.not_not, true_or, or_true, false_or, or_false, true_imp_iff, false_imp_iff, not_true_eq_false, not_false_eq_true, jif0, jif1, jifb, ltT, ltF, leT, leF, eqT, eqF, jlt, jle, jeq, jlt0, jle0, jeq0, jge0, jgt0, jinB, jnat, clt, cle, ceq, cgt, cge, lI_add, lI_sub, lI_mul, jadd, jsub, jmul, jneg, jtol, b010, b011, pv_2t, Int.toNat_natCast, Option.some.injEq, exists_eq_left', if_true, if_false]
    refine PW.iv rfl rfl rfl t3.1.1.1 t3.1.1.2 (le_b rfl) (le_b rfl) ?_
    refine t_feedNumber t3 he (by omega) fun g4 f4 t4 e4 => ⟨rfl, ⟨f4.1.2.2.1, rfl⟩, ?_⟩
    refine vs_ok 2 ?_
    rw [show ((gRes 138).drop 20).take 2 = [.aload 0, .iload 5] from rfl]
    simp (disch := omega) only [vs_aload0, vs_iload5, vs_nil, gv_0, gv_1, gv_2, gv_3, pv_0, pv_1, va_rf_s, Nat.reduceDiv, Nat.reduceMod, Nat.reduceAdd, Nat.reduceMul, Int.reduceToNat, true_and, and_true, and_self, cP_eq, cP_ne, cP_lt, cP_ge, cP_gt, cP_le, eL_i, eL_l, eL_r, eL_n, Option.toList_none, Option.toList_some, List.nil_append, List.cons_append, kkI, llI, nnI, rrI, jjI, kkJ, llJ, nnJ, rrJ, iiJ, zIIs, zJJs, nEF, nET, and_false, false_and, jmin, jmax, catS_n, catS_i, catS_r, catS_l, Nat.reduceLeDiff, j1eq1, n21, jt0, jt1, Bool.false_eq_true, Classical.not_not, true_or, or_true, false_or, or_false, true_imp_iff, false_imp_iff, not_true_eq_false, not_false_eq_true, jif0, jif1, jifb, ltT, ltF, leT, leF, eqT, eqF, jlt, jle, jeq, jlt0, jle0, jeq0, jge0, jgt0, jinB, jnat, clt, cle, ceq, cgt, cge, lI_add, lI_sub, lI_mul, jadd, jsub, jmul, jneg, jtol, b010, b011, pv_2t, Int.toNat_natCast, Option.some.injEq, exists_eq_left', if_true, if_false]
    refine PW.iv rfl rfl rfl t4.1.1.1 t4.1.1.2 (le_b rfl) (le_b rfl) ?_
    refine t_feedNumber t4 hf (by omega) fun g5 f5 t5 e5 => ⟨rfl, ⟨f5.1.2.2.1, rfl⟩, ?_⟩
    have N5 := t5.1
    have n5 := t5.2.1
    refine vs_ok 3 ?_
    rw [show ((gRes 138).drop 23).take 3 = [.aload 0, .getfield 11010, .ireturn] from rfl]
    simp (disch := omega) only [vs_getfield, vs_ireturn, vs_aload0, vs_nil, gv_0, gv_1, gv_2, gv_3, pv_0, pv_1, va_rf_s, Nat.reduceDiv, Nat.reduceMod, Nat.reduceAdd, Nat.reduceMul, Int.reduceToNat, true_and, and_true, and_self, cP_eq, cP_ne, cP_lt, cP_ge, cP_gt, cP_le, eL_i, eL_l, eL_r, eL_n, Option.toList_none, Option.toList_some, List.nil_append, List.cons_append, kkI, llI, nnI, rrI, jjI, kkJ, llJ, nnJ, rrJ, iiJ, zIIs, zJJs, nEF, nET, and_false, false_and, jmin, jmax, catS_n, catS_i, catS_r, catS_l, Nat.reduceLeDiff, j1eq1, n21, jt0, jt1, Bool.false_eq_true, Classical.not_not, true_or, or_true, false_or, or_false, true_imp_iff, false_imp_iff, not_true_eq_false, not_false_eq_true, jif0, jif1, jifb, ltT, ltF, leT, leF, eqT, eqF, jlt, jle, jeq, jlt0, jle0, jeq0, jge0, jgt0, jinB, jnat, clt, cle, ceq, cgt, cge, lI_add, lI_sub, lI_mul, jadd, jsub, jmul, jneg, jtol, b010, b011, pv_2t, Int.toNat_natCast, Option.some.injEq, exists_eq_left', if_true, if_false, N5, n5, show gRc 138 = 1 from rfl]
    exact h1 c1 g5 ((((f1.tr f2).tr f3).tr f4).tr f5) t5 fun i hi => by rw [e5 i hi, e4 i hi, e3 i hi, e2 i hi, e1 i hi]
  · refine vs_ok 8 ?_
    rw [show ((gRes 138).drop 0).take 8 = [.aload 0, .getfield 11010, .iconst 20, .iadd, .iconst 540, .if_icmp .le 8, .iconst (-1), .ireturn] from rfl]
    simp (disch := omega) only [vs_iadd, vs_iconst, vs_if_icmp, vs_getfield, vs_ireturn, vs_aload0, vs_nil, gv_0, gv_1, gv_2, gv_3, pv_0, pv_1, va_rf_s, Nat.reduceDiv, Nat.reduceMod, Nat.reduceAdd, Nat.reduceMul, Int.reduceToNat, true_and, and_true, and_self, cP_eq, cP_ne, cP_lt, cP_ge, cP_gt, cP_le, eL_i, eL_l, eL_r, eL_n, Option.toList_none, Option.toList_some, List.nil_append, List.cons_append, kkI, llI, nnI, rrI, jjI, kkJ, llJ, nnJ, rrJ, iiJ, zIIs, zJJs, nEF, nET, and_false, false_and, jmin, jmax, catS_n, catS_i, catS_r, catS_l, Nat.reduceLeDiff, j1eq1, n21, jt0, jt1, Bool.false_eq_true, Classical.not_not, true_or, or_true, false_or, or_false, true_imp_iff, false_imp_iff, not_true_eq_false, not_false_eq_true, jif0, jif1, jifb, ltT, ltF, leT, leF, eqT, eqF, jlt, jle, jeq, jlt0, jle0, jeq0, jge0, jgt0, jinB, jnat, clt, cle, ceq, cgt, cge, lI_add, lI_sub, lI_mul, jadd, jsub, jmul, jneg, jtol, b010, b011, pv_2t, Int.toNat_natCast, Option.some.injEq, exists_eq_left', if_true, if_false, N, hl, show gRc 138 = 1 from rfl]
    exact h0 (by omega)
