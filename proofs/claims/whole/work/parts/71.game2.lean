/-! Game: pfaffian, weigh, stands -/
theorem jldiv {x y : Int} (a : 0 ≤ x) (b : x ≤ 9223372036854775807) (c : 0 < y) (e : y ≤ 9223372036854775807) : Int64.ofInt x / Int64.ofInt y = Int64.ofInt (x / y) := lI_div ⟨by omega, b⟩ ⟨by omega, e⟩ a c
theorem jtoi {x : Int} (a : -2147483648 ≤ x) (b : x ≤ 2147483647) : (Int64.ofInt x).toInt32 = Int32.ofInt x := lI_toi ⟨a, b⟩
theorem jl0 {x : Int} (a : -9223372036854775808 ≤ x) (b : x ≤ 9223372036854775807) : (Int64.ofInt x = 0) = (x = 0) := propext (lI_eq (y := 0) ⟨a, b⟩ ⟨by omega, by omega⟩)
def lwF (set : Nat) : Nat → Nat → Nat
  | 0, i => i
  | k + 1, i => if set.testBit i = true then i else lwF set k (i + 1)
theorem lwF_le (set : Nat) : ∀ k i, i ≤ lwF set k i ∧ lwF set k i ≤ i + k
  | 0, i => ⟨Nat.le_refl _, Nat.le_refl _⟩
  | k + 1, i => by
    have := lwF_le set k (i + 1)
    unfold lwF
    split <;> omega
def pS2 (S : Nat → Int) (P : Nat → Int) (f rest : Nat) : Nat → Nat → Int → Int → Int
  | 0, _, _, acc => acc
  | k + 1, j, s, acc => if rest.testBit j = true then pS2 S P f rest k (j + 1) (-s) (acc + s * S (7 * f + j) * P (rest ^^^ 2 ^ j)) else pS2 S P f rest k (j + 1) s acc
def pfF (S : Nat → Int) : Nat → Nat → Int
  | 0, _ => 1
  | d + 1, set => if set = 0 then 1 else pS2 S (pfF S d) (lwF set 6 0) (set &&& (set - 1)) (7 - (lwF set 6 0 + 1)) (lwF set 6 0 + 1) 1 0
theorem pS2_b {S : Nat → Int} {P : Nat → Int} {f rest : Nat} {B : Int} (hS : ∀ i, -1 ≤ S i ∧ S i ≤ 1) (hP : ∀ i, -B ≤ P i ∧ P i ≤ B) : ∀ (k j : Nat) (s acc : Int), (s = 1 ∨ s = -1) → acc - k * B ≤ pS2 S P f rest k j s acc ∧ pS2 S P f rest k j s acc ≤ acc + k * B
  | 0, j, s, acc, _ => by
    unfold pS2
    simp
  | k + 1, j, s, acc, hs => by
    have hB : 0 ≤ B := by have := hP 0; omega
    unfold pS2
    have e : ((k + 1 : Nat) : Int) * B = k * B + B := by
      rw [show ((k + 1 : Nat) : Int) = (k : Int) + 1 by omega, Int.add_mul, Int.one_mul]
    rw [e]
    split
    · have h1 := pS2_b (f := f) (rest := rest) hS hP k (j + 1) (-s) (acc + s * S (7 * f + j) * P (rest ^^^ 2 ^ j)) (by omega)
      have h2 : -B ≤ s * S (7 * f + j) * P (rest ^^^ 2 ^ j) ∧ s * S (7 * f + j) * P (rest ^^^ 2 ^ j) ≤ B := by
        have a1 := hS (7 * f + j)
        have a2 := hP (rest ^^^ 2 ^ j)
        have a3 : s * S (7 * f + j) = -1 ∨ s * S (7 * f + j) = 0 ∨ s * S (7 * f + j) = 1 := by
          rcases hs with z | z <;> subst z <;> omega
        rcases a3 with z | z | z <;> rw [z] <;> omega
      generalize s * S (7 * f + j) * P (rest ^^^ 2 ^ j) = u at *
      generalize (k : Int) * B = v at *
      omega
    · have h1 := pS2_b (f := f) (rest := rest) hS hP k (j + 1) s acc hs
      generalize (k : Int) * B = v at *
      omega
theorem pfF_b {S : Nat → Int} (hS : ∀ i, -1 ≤ S i ∧ S i ≤ 1) : ∀ (d set : Nat), -((7 ^ d : Nat) : Int) ≤ pfF S d set ∧ pfF S d set ≤ ((7 ^ d : Nat) : Int)
  | 0, _ => by unfold pfF; decide
  | d + 1, set => by
    have p1 : 0 < 7 ^ d := Nat.pow_pos (by omega)
    have p2 : 7 ^ (d + 1) = 7 ^ d * 7 := Nat.pow_succ 7 d
    unfold pfF
    split
    · omega
    · have hl := lwF_le set 6 0
      have h := pS2_b (f := lwF set 6 0) (rest := set &&& (set - 1)) (B := ((7 ^ d : Nat) : Int)) hS (fun i => pfF_b hS d i) (7 - (lwF set 6 0 + 1)) (lwF set 6 0 + 1) 1 0 (Or.inl rfl)
      have h2 : ((7 - (lwF set 6 0 + 1) : Nat) : Int) * ((7 ^ d : Nat) : Int) ≤ 7 * ((7 ^ d : Nat) : Int) := Int.mul_le_mul_of_nonneg_right (by omega) (by omega)
      generalize ((7 - (lwF set 6 0 + 1) : Nat) : Int) * ((7 ^ d : Nat) : Int) = u at *
      omega
theorem xor_lt {a b : Nat} (h : a < 128) (h2 : b < 128) : a ^^^ b < 128 := Nat.xor_lt_two_pow (n := 7) h h2
theorem t_pfaffian {a : Nat} {S : Nat → Int} (hS : ∀ i, -1 ≤ S i ∧ S i ≤ 1) : ∀ (dd d set : Nat) (h : Hp) (Q : Nat → Option Value → Hp → Prop), dd ≤ 7 → set < 128 → (zK h a = 14 ∧ a < zN h ∧ zL h a = 49) → (∀ i, i < 49 → zI h a i = iI (S i)) → Q 0 (some (.long (lI (pfF S dd set)))) h → PR (d + dd) m_Game_pfaffian [.ref a, .int (iI set), .int (iI dd)] h Q := by
  intro dd
  induction dd with
  | zero =>
    intro d set h Q hdd hset hk hI hq
    show PW (d + 0) 29 0 [some (.ref a), some (.int (iI set)), some (.int (iI (0 : Nat))), none, none, none, none, none, none] [] h Q
    by_cases c : set = 0
    · refine vs_ok 2 ?_
      rw [show ((gRes 29).drop 0).take 2 = [.iload 1, .ifCond .eq 4] from rfl]
      simp (disch := omega) only [vs_ifCond, vs_iload1, vs_nil, gv_0, gv_1, gv_2, gv_3, pv_0, pv_1, va_rf_s, Nat.reduceDiv, Nat.reduceMod, Nat.reduceAdd, Nat.reduceMul, Int.reduceToNat, true_and, and_true, and_self, cP_eq, cP_ne, cP_lt, cP_ge, cP_gt, cP_le, eL_i, eL_l, eL_r, eL_n, Option.toList_none, Option.toList_some, List.nil_append, List.cons_append, kkI, llI, nnI, rrI, jjI, kkJ, llJ, nnJ, rrJ, iiJ, zIIs, zJJs, nEF, nET, and_false, false_and, jmin, jmax, catS_n, catS_i, catS_r, catS_l, Nat.reduceLeDiff, j1eq1, n21, jt0, jt1, Bool.false_eq_true, Classical.not_not, true_or, or_true, false_or, or_false, true_imp_iff, false_imp_iff, not_true_eq_false, not_false_eq_true, jif0, jif1, jifb, ltT, ltF, leT, leF, eqT, eqF, jlt, jle, jeq, jlt0, jle0, jeq0, jge0, jgt0, jinB, jnat, clt, cle, ceq, cgt, cge, lI_add, lI_sub, lI_mul, jadd, jsub, jmul, jneg, jtol, b010, b011, pv_2t, Int.toNat_natCast, Option.some.injEq, exists_eq_left', if_true, if_false]
      refine vs_ok 2 ?_
      rw [show ((gRes 29).drop 4).take 2 = [.jsr_w 1, .lreturn] from rfl]
      simp (disch := omega) only [vs_jsr_w, vs_lreturn, vs_nil, gv_0, gv_1, gv_2, gv_3, pv_0, pv_1, va_rf_s, Nat.reduceDiv, Nat.reduceMod, Nat.reduceAdd, Nat.reduceMul, Int.reduceToNat, true_and, and_true, and_self, cP_eq, cP_ne, cP_lt, cP_ge, cP_gt, cP_le, eL_i, eL_l, eL_r, eL_n, Option.toList_none, Option.toList_some, List.nil_append, List.cons_append, kkI, llI, nnI, rrI, jjI, kkJ, llJ, nnJ, rrJ, iiJ, zIIs, zJJs, nEF, nET, and_false, false_and, jmin, jmax, catS_n, catS_i, catS_r, catS_l, Nat.reduceLeDiff, j1eq1, n21, jt0, jt1, Bool.false_eq_true, Classical.not_not, true_or, or_true, false_or, or_false, true_imp_iff, false_imp_iff, not_true_eq_false, not_false_eq_true, jif0, jif1, jifb, ltT, ltF, leT, leF, eqT, eqF, jlt, jle, jeq, jlt0, jle0, jeq0, jge0, jgt0, jinB, jnat, clt, cle, ceq, cgt, cge, lI_add, lI_sub, lI_mul, jadd, jsub, jmul, jneg, jtol, b010, b011, pv_2t, Int.toNat_natCast, Option.some.injEq, exists_eq_left', if_true, if_false, show gRc 29 = 3 from rfl]
      exact hq
    · refine vs_ok 6 ?_
      rw [show ((gRes 29).drop 0).take 6 = [.iload 1, .ifCond .eq 4, .iload 2, .ifCond .gt 6, .jsr_w 1, .lreturn] from rfl]
      simp (disch := omega) only [vs_jsr_w, vs_ifCond, vs_lreturn, vs_iload1, vs_iload2, vs_nil, gv_0, gv_1, gv_2, gv_3, pv_0, pv_1, va_rf_s, Nat.reduceDiv, Nat.reduceMod, Nat.reduceAdd, Nat.reduceMul, Int.reduceToNat, true_and, and_true, and_self, cP_eq, cP_ne, cP_lt, cP_ge, cP_gt, cP_le, eL_i, eL_l, eL_r, eL_n, Option.toList_none, Option.toList_some, List.nil_append, List.cons_append, kkI, llI, nnI, rrI, jjI, kkJ, llJ, nnJ, rrJ, iiJ, zIIs, zJJs, nEF, nET, and_false, false_and, jmin, jmax, catS_n, catS_i, catS_r, catS_l, Nat.reduceLeDiff, j1eq1, n21, jt0, jt1, Bool.false_eq_true, Classical.not_not, true_or, or_true, false_or, or_false, true_imp_iff, false_imp_iff, not_true_eq_false, not_false_eq_true, jif0, jif1, jifb, ltT, ltF, leT, leF, eqT, eqF, jlt, jle, jeq, jlt0, jle0, jeq0, jge0, jgt0, jinB, jnat, clt, cle, ceq, cgt, cge, lI_add, lI_sub, lI_mul, jadd, jsub, jmul, jneg, jtol, b010, b011, pv_2t, Int.toNat_natCast, Option.some.injEq, exists_eq_left', if_true, if_false, show gRc 29 = 3 from rfl]
      exact hq
  | succ dd ih =>
    intro d set h Q hdd hset hk hI hq
    show PW (d + (dd + 1)) 29 0 [some (.ref a), some (.int (iI set)), some (.int (iI (dd + 1 : Nat))), none, none, none, none, none, none] [] h Q
    unfold pfF at hq
    by_cases c : set = 0
    · rw [if_pos c] at hq
      refine vs_ok 2 ?_
      rw [show ((gRes 29).drop 0).take 2 = [.iload 1, .ifCond .eq 4] from rfl]
      simp (disch := omega) only [vs_ifCond, vs_iload1, vs_nil, gv_0, gv_1, gv_2, gv_3, pv_0, pv_1, va_rf_s, Nat.reduceDiv, Nat.reduceMod, Nat.reduceAdd, Nat.reduceMul, Int.reduceToNat, true_and, and_true, and_self, cP_eq, cP_ne, cP_lt, cP_ge, cP_gt, cP_le, eL_i, eL_l, eL_r, eL_n, Option.toList_none, Option.toList_some, List.nil_append, List.cons_append, kkI, llI, nnI, rrI, jjI, kkJ, llJ, nnJ, rrJ, iiJ, zIIs, zJJs, nEF, nET, and_false, false_and, jmin, jmax, catS_n, catS_i, catS_r, catS_l, Nat.reduceLeDiff, j1eq1, n21, jt0, jt1, Bool.false_eq_true, Classical.not_not, true_or, or_true, false_or, or_false, true_imp_iff, false_imp_iff, not_true_eq_false, not_false_eq_true, jif0, jif1, jifb, ltT, ltF, leT, leF, eqT, eqF, jlt, jle, jeq, jlt0, jle0, jeq0, jge0, jgt0, jinB, jnat, clt, cle, ceq, cgt, cge, lI_add, lI_sub, lI_mul, jadd, jsub, jmul, jneg, jtol, b010, b011, pv_2t, Int.toNat_natCast, Option.some.injEq, exists_eq_left', if_true, if_false]
      refine vs_ok 2 ?_
      rw [show ((gRes 29).drop 4).take 2 = [.jsr_w 1, .lreturn] from rfl]
      simp (disch := omega) only [vs_jsr_w, vs_lreturn, vs_nil, gv_0, gv_1, gv_2, gv_3, pv_0, pv_1, va_rf_s, Nat.reduceDiv, Nat.reduceMod, Nat.reduceAdd, Nat.reduceMul, Int.reduceToNat, true_and, and_true, and_self, cP_eq, cP_ne, cP_lt, cP_ge, cP_gt, cP_le, eL_i, eL_l, eL_r, eL_n, Option.toList_none, Option.toList_some, List.nil_append, List.cons_append, kkI, llI, nnI, rrI, jjI, kkJ, llJ, nnJ, rrJ, iiJ, zIIs, zJJs, nEF, nET, and_false, false_and, jmin, jmax, catS_n, catS_i, catS_r, catS_l, Nat.reduceLeDiff, j1eq1, n21, jt0, jt1, Bool.false_eq_true, Classical.not_not, true_or, or_true, false_or, or_false, true_imp_iff, false_imp_iff, not_true_eq_false, not_false_eq_true, jif0, jif1, jifb, ltT, ltF, leT, leF, eqT, eqF, jlt, jle, jeq, jlt0, jle0, jeq0, jge0, jgt0, jinB, jnat, clt, cle, ceq, cgt, cge, lI_add, lI_sub, lI_mul, jadd, jsub, jmul, jneg, jtol, b010, b011, pv_2t, Int.toNat_natCast, Option.some.injEq, exists_eq_left', if_true, if_false, show gRc 29 = 3 from rfl]
      exact hq
    · rw [if_neg c] at hq
      have hl := lwF_le set 6 0
      have hr7 : set &&& (set - 1) < 128 := Nat.lt_of_le_of_lt Nat.and_le_left hset
      have e1 : (set : Int) - 1 = ((set - 1 : Nat) : Int) := by omega
      have e2 : ((dd + 1 : Nat) : Int) - 1 = ((dd : Nat) : Int) := by omega
      generalize hF : lwF set 6 0 = F at *
      generalize hR : set &&& (set - 1) = R at *
      have l2 : ∀ (k j : Nat) (s acc : Int), k + j = 7 → F < j → (s = 1 ∨ s = -1) → pS2 S (pfF S dd) F R k j s acc = pS2 S (pfF S dd) F R (7 - (F + 1)) (F + 1) 1 0 → PW (d + (dd + 1)) 29 33 [some (.ref a), some (.int (iI set)), some (.int (iI (dd + 1 : Nat))), some (.int (iI F)), some (.int (iI R)), some (.long (lI acc)), none, some (.int (iI s)), some (.int (iI j))] [] h Q := by
        intro k
        induction k with
        | zero =>
          intro j s acc hk hj hs hE
          have e : j = 7 := by omega
          subst e
          rw [← hE] at hq
          refine vs_ok 3 ?_
          rw [show ((gRes 29).drop 33).take 3 = [.iload 8, .iconst 7, .if_icmp .ge 72] from rfl]
          simp (disch := omega) only [vs_iconst, vs_if_icmp, vs_iload8, vs_nil, gv_0, gv_1, gv_2, gv_3, pv_0, pv_1, va_rf_s, Nat.reduceDiv, Nat.reduceMod, Nat.reduceAdd, Nat.reduceMul, Int.reduceToNat, true_and, and_true, and_self, cP_eq, cP_ne, cP_lt, cP_ge, cP_gt, cP_le, eL_i, eL_l, eL_r, eL_n, Option.toList_none, Option.toList_some, List.nil_append, List.cons_append, kkI, llI, nnI, rrI, jjI, kkJ, llJ, nnJ, rrJ, iiJ, zIIs, zJJs, nEF, nET, and_false, false_and, jmin, jmax, catS_n, catS_i, catS_r, catS_l, Nat.reduceLeDiff, j1eq1, n21, jt0, jt1, Bool.false_eq_true, Classical.not_not, true_or, or_true, false_or, or_false, true_imp_iff, false_imp_iff, not_true_eq_false, not_false_eq_true, jif0, jif1, jifb, ltT, ltF, leT, leF, eqT, eqF, jlt, jle, jeq, jlt0, jle0, jeq0, jge0, jgt0, jinB, jnat, clt, cle, ceq, cgt, cge, lI_add, lI_sub, lI_mul, jadd, jsub, jmul, jneg, jtol, b010, b011, pv_2t, Int.toNat_natCast, Option.some.injEq, exists_eq_left', if_true, if_false]
          refine vs_ok 2 ?_
          rw [show ((gRes 29).drop 72).take 2 = [.lload 5, .lreturn] from rfl]
          simp (disch := omega) only [vs_lreturn, vs_lload5, vs_nil, gv_0, gv_1, gv_2, gv_3, pv_0, pv_1, va_rf_s, Nat.reduceDiv, Nat.reduceMod, Nat.reduceAdd, Nat.reduceMul, Int.reduceToNat, true_and, and_true, and_self, cP_eq, cP_ne, cP_lt, cP_ge, cP_gt, cP_le, eL_i, eL_l, eL_r, eL_n, Option.toList_none, Option.toList_some, List.nil_append, List.cons_append, kkI, llI, nnI, rrI, jjI, kkJ, llJ, nnJ, rrJ, iiJ, zIIs, zJJs, nEF, nET, and_false, false_and, jmin, jmax, catS_n, catS_i, catS_r, catS_l, Nat.reduceLeDiff, j1eq1, n21, jt0, jt1, Bool.false_eq_true, Classical.not_not, true_or, or_true, false_or, or_false, true_imp_iff, false_imp_iff, not_true_eq_false, not_false_eq_true, jif0, jif1, jifb, ltT, ltF, leT, leF, eqT, eqF, jlt, jle, jeq, jlt0, jle0, jeq0, jge0, jgt0, jinB, jnat, clt, cle, ceq, cgt, cge, lI_add, lI_sub, lI_mul, jadd, jsub, jmul, jneg, jtol, b010, b011, pv_2t, Int.toNat_natCast, Option.some.injEq, exists_eq_left', if_true, if_false, show gRc 29 = 3 from rfl]
          exact hq
        | succ k ihk =>
          intro j s acc hkj hj hs hE
          have ef : pS2 S (pfF S dd) F R (k + 1) j s acc = if R.testBit j = true then pS2 S (pfF S dd) F R k (j + 1) (-s) (acc + s * S (7 * F + j) * pfF S dd (R ^^^ 2 ^ j)) else pS2 S (pfF S dd) F R k (j + 1) s acc := rfl
          rw [ef] at hE
          by_cases cb : R.testBit j = true
          · rw [if_pos cb] at hE
            have e7 : (F : Int) * 7 + (j : Int) = ((7 * F + j : Nat) : Int) := by omega
            have hsb : -1 ≤ s * S (7 * F + j) ∧ s * S (7 * F + j) ≤ 1 := by
              have := hS (7 * F + j)
              rcases hs with z | z <;> subst z <;> omega
            refine vs_ok 10 ?_
            rw [show ((gRes 29).drop 33).take 10 = [.iload 8, .iconst 7, .if_icmp .ge 72, .iload 4, .iload 8, .ishr, .iconst 1, .iand, .iconst 1, .if_icmp .ne 70] from rfl]
            simp (disch := omega) only [vs_iconst, vs_if_icmp, vs_iload4, vs_iload8, vs_nil, gv_0, gv_1, gv_2, gv_3, pv_0, pv_1, va_rf_s, vs_iand, vs_ishr, Nat.reduceDiv, Nat.reduceMod, Nat.reduceAdd, Nat.reduceMul, Int.reduceToNat, true_and, and_true, and_self, cP_eq, cP_ne, cP_lt, cP_ge, cP_gt, cP_le, eL_i, eL_l, eL_r, eL_n, Option.toList_none, Option.toList_some, List.nil_append, List.cons_append, kkI, llI, nnI, rrI, jjI, kkJ, llJ, nnJ, rrJ, iiJ, zIIs, zJJs, nEF, nET, and_false, false_and, jmin, jmax, catS_n, catS_i, catS_r, catS_l, Nat.reduceLeDiff, j1eq1, n21, jt0, jt1, Bool.false_eq_true, Classical.not_not, true_or, or_true, false_or, or_false, true_imp_iff, false_imp_iff, not_true_eq_false, not_false_eq_true, jif0, jif1, jifb, ltT, ltF, leT, leF, eqT, eqF, jlt, jle, jeq, jlt0, jle0, jeq0, jge0, jgt0, jinB, jnat, clt, cle, ceq, cgt, cge, lI_add, lI_sub, lI_mul, jadd, jsub, jmul, jneg, jtol, b010, b011, pv_2t, Int.toNat_natCast, Option.some.injEq, exists_eq_left', if_true, if_false, jbit, cb]
            refine vs_ok 20 ?_
            rw [show ((gRes 29).drop 43).take 20 = [.lload 5, .iload 7, .aload 0, .iload 3, .iconst 7, .imul, .iload 8, .iadd, .iaload, .imul, .i2l, .aload 0, .iload 4, .iconst 1, .iload 8, .ishl, .ixor, .iload 2, .iconst 1, .isub] from rfl]
            simp (disch := omega) only [vs_iadd, vs_isub, vs_imul, vs_i2l, vs_iconst, vs_iaload, vs_aload0, vs_iload2, vs_iload3, vs_iload4, vs_lload5, vs_iload7, vs_iload8, vs_nil, gv_0, gv_1, gv_2, gv_3, pv_0, pv_1, va_rf_s, vs_ixor, vs_ishl, Nat.reduceDiv, Nat.reduceMod, Nat.reduceAdd, Nat.reduceMul, Int.reduceToNat, true_and, and_true, and_self, cP_eq, cP_ne, cP_lt, cP_ge, cP_gt, cP_le, eL_i, eL_l, eL_r, eL_n, Option.toList_none, Option.toList_some, List.nil_append, List.cons_append, kkI, llI, nnI, rrI, jjI, kkJ, llJ, nnJ, rrJ, iiJ, zIIs, zJJs, nEF, nET, and_false, false_and, jmin, jmax, catS_n, catS_i, catS_r, catS_l, Nat.reduceLeDiff, j1eq1, n21, jt0, jt1, Bool.false_eq_true, Classical.not_not, true_or, or_true, false_or, or_false, true_imp_iff, false_imp_iff, not_true_eq_false, not_false_eq_true, jif0, jif1, jifb, ltT, ltF, leT, leF, eqT, eqF, jlt, jle, jeq, jlt0, jle0, jeq0, jge0, jgt0, jinB, jnat, clt, cle, ceq, cgt, cge, lI_add, lI_sub, lI_mul, jadd, jsub, jmul, jneg, jtol, b010, b011, pv_2t, Int.toNat_natCast, Option.some.injEq, exists_eq_left', if_true, if_false, hk, e7, hI (7 * F + j) (by omega), jxor, jshl1, e2]
            refine PW.ss (r := [.long (lI (s * S (7 * F + j))), .long (lI acc)]) rfl (le_b rfl) rfl rfl (le_b rfl) (le_b rfl) ?_
            refine ih d (R ^^^ 2 ^ j) h _ (by omega) (xor_lt hr7 (p2_lt (n := 7) (by omega))) hk hI ⟨rfl, ⟨rfl, rfl⟩, ?_⟩
            refine vs_ok 8 ?_
            rw [show ((gRes 29).drop 64).take 8 = [.lmul, .ladd, .lstore 5, .iload 7, .ineg, .istore 7, .iinc 8 1, .goto 33] from rfl]
            simp (disch := omega) only [vs_ladd, vs_lmul, vs_goto, vs_lstore5n, vs_lstore5i, vs_lstore5r, vs_lstore5l, vs_iload7, vs_istore7n, vs_istore7i, vs_istore7r, vs_istore7l, vs_iinc8n, vs_iinc8i, vs_iinc8r, vs_iinc8l, vs_nil, gv_0, gv_1, gv_2, gv_3, pv_0, pv_1, va_rf_s, vs_ineg, Nat.reduceDiv, Nat.reduceMod, Nat.reduceAdd, Nat.reduceMul, Int.reduceToNat, true_and, and_true, and_self, cP_eq, cP_ne, cP_lt, cP_ge, cP_gt, cP_le, eL_i, eL_l, eL_r, eL_n, Option.toList_none, Option.toList_some, List.nil_append, List.cons_append, kkI, llI, nnI, rrI, jjI, kkJ, llJ, nnJ, rrJ, iiJ, zIIs, zJJs, nEF, nET, and_false, false_and, jmin, jmax, catS_n, catS_i, catS_r, catS_l, Nat.reduceLeDiff, j1eq1, n21, jt0, jt1, Bool.false_eq_true, Classical.not_not, true_or, or_true, false_or, or_false, true_imp_iff, false_imp_iff, not_true_eq_false, not_false_eq_true, jif0, jif1, jifb, ltT, ltF, leT, leF, eqT, eqF, jlt, jle, jeq, jlt0, jle0, jeq0, jge0, jgt0, jinB, jnat, clt, cle, ceq, cgt, cge, lI_add, lI_sub, lI_mul, jadd, jsub, jmul, jneg, jtol, b010, b011, pv_2t, Int.toNat_natCast, Option.some.injEq, exists_eq_left', if_true, if_false]
            exact ihk (j + 1) (-s) _ (by omega) (by omega) (by omega) hE
          · rw [if_neg cb] at hE
            refine vs_ok 10 ?_
            rw [show ((gRes 29).drop 33).take 10 = [.iload 8, .iconst 7, .if_icmp .ge 72, .iload 4, .iload 8, .ishr, .iconst 1, .iand, .iconst 1, .if_icmp .ne 70] from rfl]
            simp (disch := omega) only [vs_iconst, vs_if_icmp, vs_iload4, vs_iload8, vs_nil, gv_0, gv_1, gv_2, gv_3, pv_0, pv_1, va_rf_s, vs_iand, vs_ishr, Nat.reduceDiv, Nat.reduceMod, Nat.reduceAdd, Nat.reduceMul, Int.reduceToNat, true_and, and_true, and_self, cP_eq, cP_ne, cP_lt, cP_ge, cP_gt, cP_le, eL_i, eL_l, eL_r, eL_n, Option.toList_none, Option.toList_some, List.nil_append, List.cons_append, kkI, llI, nnI, rrI, jjI, kkJ, llJ, nnJ, rrJ, iiJ, zIIs, zJJs, nEF, nET, and_false, false_and, jmin, jmax, catS_n, catS_i, catS_r, catS_l, Nat.reduceLeDiff, j1eq1, n21, jt0, jt1, Bool.false_eq_true, Classical.not_not, true_or, or_true, false_or, or_false, true_imp_iff, false_imp_iff, not_true_eq_false, not_false_eq_true, jif0, jif1, jifb, ltT, ltF, leT, leF, eqT, eqF, jlt, jle, jeq, jlt0, jle0, jeq0, jge0, jgt0, jinB, jnat, clt, cle, ceq, cgt, cge, lI_add, lI_sub, lI_mul, jadd, jsub, jmul, jneg, jtol, b010, b011, pv_2t, Int.toNat_natCast, Option.some.injEq, exists_eq_left', if_true, if_false, jbit, cb]
            refine vs_ok 2 ?_
            rw [show ((gRes 29).drop 70).take 2 = [.iinc 8 1, .goto 33] from rfl]
            simp (disch := omega) only [vs_goto, vs_iinc8n, vs_iinc8i, vs_iinc8r, vs_iinc8l, vs_nil, gv_0, gv_1, gv_2, gv_3, pv_0, pv_1, va_rf_s, Nat.reduceDiv, Nat.reduceMod, Nat.reduceAdd, Nat.reduceMul, Int.reduceToNat, true_and, and_true, and_self, cP_eq, cP_ne, cP_lt, cP_ge, cP_gt, cP_le, eL_i, eL_l, eL_r, eL_n, Option.toList_none, Option.toList_some, List.nil_append, List.cons_append, kkI, llI, nnI, rrI, jjI, kkJ, llJ, nnJ, rrJ, iiJ, zIIs, zJJs, nEF, nET, and_false, false_and, jmin, jmax, catS_n, catS_i, catS_r, catS_l, Nat.reduceLeDiff, j1eq1, n21, jt0, jt1, Bool.false_eq_true, Classical.not_not, true_or, or_true, false_or, or_false, true_imp_iff, false_imp_iff, not_true_eq_false, not_false_eq_true, jif0, jif1, jifb, ltT, ltF, leT, leF, eqT, eqF, jlt, jle, jeq, jlt0, jle0, jeq0, jge0, jgt0, jinB, jnat, clt, cle, ceq, cgt, cge, lI_add, lI_sub, lI_mul, jadd, jsub, jmul, jneg, jtol, b010, b011, pv_2t, Int.toNat_natCast, Option.some.injEq, exists_eq_left', if_true, if_false]
            exact ihk (j + 1) s acc (by omega) (by omega) hs hE
      have l1 : ∀ (k i : Nat), k + i = 6 → lwF set k i = F → PW (d + (dd + 1)) 29 8 [some (.ref a), some (.int (iI set)), some (.int (iI (dd + 1 : Nat))), some (.int (iI i)), none, none, none, none, none] [] h Q := by
        intro k
        have out : PW (d + (dd + 1)) 29 19 [some (.ref a), some (.int (iI set)), some (.int (iI (dd + 1 : Nat))), some (.int (iI F)), none, none, none, none, none] [] h Q := by
          refine vs_ok 14 ?_
          rw [show ((gRes 29).drop 19).take 14 = [.iload 1, .iload 1, .iconst 1, .isub, .iand, .istore 4, .jsr_w 0, .lstore 5, .iconst 1, .istore 7, .iload 3, .iconst 1, .iadd, .istore 8] from rfl]
          simp (disch := omega) only [vs_iadd, vs_isub, vs_iconst, vs_jsr_w, vs_iload1, vs_iload3, vs_istore4n, vs_istore4i, vs_istore4r, vs_istore4l, vs_lstore5n, vs_lstore5i, vs_lstore5r, vs_lstore5l, vs_istore7n, vs_istore7i, vs_istore7r, vs_istore7l, vs_istore8n, vs_istore8i, vs_istore8r, vs_istore8l, vs_nil, gv_0, gv_1, gv_2, gv_3, pv_0, pv_1, va_rf_s, vs_iand, Nat.reduceDiv, Nat.reduceMod, Nat.reduceAdd, Nat.reduceMul, Int.reduceToNat, true_and, and_true, and_self, cP_eq, cP_ne, cP_lt, cP_ge, cP_gt, cP_le, eL_i, eL_l, eL_r, eL_n, Option.toList_none, Option.toList_some, List.nil_append, List.cons_append, kkI, llI, nnI, rrI, jjI, kkJ, llJ, nnJ, rrJ, iiJ, zIIs, zJJs, nEF, nET, and_false, false_and, jmin, jmax, catS_n, catS_i, catS_r, catS_l, Nat.reduceLeDiff, j1eq1, n21, jt0, jt1, Bool.false_eq_true, Classical.not_not, true_or, or_true, false_or, or_false, true_imp_iff, false_imp_iff, not_true_eq_false, not_false_eq_true, jif0, jif1, jifb, ltT, ltF, leT, leF, eqT, eqF, jlt, jle, jeq, jlt0, jle0, jeq0, jge0, jgt0, jinB, jnat, clt, cle, ceq, cgt, cge, lI_add, lI_sub, lI_mul, jadd, jsub, jmul, jneg, jtol, b010, b011, pv_2t, Int.toNat_natCast, Option.some.injEq, exists_eq_left', if_true, if_false, e1, jand, hR]
          exact l2 (7 - (F + 1)) (F + 1) 1 0 (by omega) (by omega) (Or.inl rfl) rfl
        induction k with
        | zero =>
          intro i hi hE
          have e : i = F := hE
          rw [e]
          refine vs_ok 3 ?_
          rw [show ((gRes 29).drop 8).take 3 = [.iload 3, .iconst 6, .if_icmp .ge 19] from rfl]
          simp (disch := omega) only [vs_iconst, vs_if_icmp, vs_iload3, vs_nil, gv_0, gv_1, gv_2, gv_3, pv_0, pv_1, va_rf_s, Nat.reduceDiv, Nat.reduceMod, Nat.reduceAdd, Nat.reduceMul, Int.reduceToNat, true_and, and_true, and_self, cP_eq, cP_ne, cP_lt, cP_ge, cP_gt, cP_le, eL_i, eL_l, eL_r, eL_n, Option.toList_none, Option.toList_some, List.nil_append, List.cons_append, kkI, llI, nnI, rrI, jjI, kkJ, llJ, nnJ, rrJ, iiJ, zIIs, zJJs, nEF, nET, and_false, false_and, jmin, jmax, catS_n, catS_i, catS_r, catS_l, Nat.reduceLeDiff, j1eq1, n21, jt0, jt1, Bool.false_eq_true, Classical.not_not, true_or, or_true, false_or, or_false, true_imp_iff, false_imp_iff, not_true_eq_false, not_false_eq_true, jif0, jif1, jifb, ltT, ltF, leT, leF, eqT, eqF, jlt, jle, jeq, jlt0, jle0, jeq0, jge0, jgt0, jinB, jnat, clt, cle, ceq, cgt, cge, lI_add, lI_sub, lI_mul, jadd, jsub, jmul, jneg, jtol, b010, b011, pv_2t, Int.toNat_natCast, Option.some.injEq, exists_eq_left', if_true, if_false]
          exact out
        | succ k ihk =>
          intro i hi hE
          have ef : lwF set (k + 1) i = if set.testBit i = true then i else lwF set k (i + 1) := rfl
          rw [ef] at hE
          by_cases cb : set.testBit i = true
          · rw [if_pos cb] at hE
            refine vs_ok 9 ?_
            rw [show ((gRes 29).drop 8).take 9 = [.iload 3, .iconst 6, .if_icmp .ge 19, .iload 1, .iload 3, .ishr, .iconst 1, .iand, .ifCond .ne 19] from rfl]
            simp (disch := omega) only [vs_iconst, vs_if_icmp, vs_ifCond, vs_iload1, vs_iload3, vs_nil, gv_0, gv_1, gv_2, gv_3, pv_0, pv_1, va_rf_s, vs_iand, vs_ishr, Nat.reduceDiv, Nat.reduceMod, Nat.reduceAdd, Nat.reduceMul, Int.reduceToNat, true_and, and_true, and_self, cP_eq, cP_ne, cP_lt, cP_ge, cP_gt, cP_le, eL_i, eL_l, eL_r, eL_n, Option.toList_none, Option.toList_some, List.nil_append, List.cons_append, kkI, llI, nnI, rrI, jjI, kkJ, llJ, nnJ, rrJ, iiJ, zIIs, zJJs, nEF, nET, and_false, false_and, jmin, jmax, catS_n, catS_i, catS_r, catS_l, Nat.reduceLeDiff, j1eq1, n21, jt0, jt1, Bool.false_eq_true, Classical.not_not, true_or, or_true, false_or, or_false, true_imp_iff, false_imp_iff, not_true_eq_false, not_false_eq_true, jif0, jif1, jifb, ltT, ltF, leT, leF, eqT, eqF, jlt, jle, jeq, jlt0, jle0, jeq0, jge0, jgt0, jinB, jnat, clt, cle, ceq, cgt, cge, lI_add, lI_sub, lI_mul, jadd, jsub, jmul, jneg, jtol, b010, b011, pv_2t, Int.toNat_natCast, Option.some.injEq, exists_eq_left', if_true, if_false, jbit, cb]
            rw [hE]
            exact out
          · rw [if_neg cb] at hE
            refine vs_ok 9 ?_
            rw [show ((gRes 29).drop 8).take 9 = [.iload 3, .iconst 6, .if_icmp .ge 19, .iload 1, .iload 3, .ishr, .iconst 1, .iand, .ifCond .ne 19] from rfl]
            simp (disch := omega) only [vs_iconst, vs_if_icmp, vs_ifCond, vs_iload1, vs_iload3, vs_nil, gv_0, gv_1, gv_2, gv_3, pv_0, pv_1, va_rf_s, vs_iand, vs_ishr, Nat.reduceDiv, Nat.reduceMod, Nat.reduceAdd, Nat.reduceMul, Int.reduceToNat, true_and, and_true, and_self, cP_eq, cP_ne, cP_lt, cP_ge, cP_gt, cP_le, eL_i, eL_l, eL_r, eL_n, Option.toList_none, Option.toList_some, List.nil_append, List.cons_append, kkI, llI, nnI, rrI, jjI, kkJ, llJ, nnJ, rrJ, iiJ, zIIs, zJJs, nEF, nET, and_false, false_and, jmin, jmax, catS_n, catS_i, catS_r, catS_l, Nat.reduceLeDiff, j1eq1, n21, jt0, jt1, Bool.false_eq_true, Classical.not_not, true_or, or_true, false_or, or_false, true_imp_iff, false_imp_iff, not_true_eq_false, not_false_eq_true, jif0, jif1, jifb, ltT, ltF, leT, leF, eqT, eqF, jlt, jle, jeq, jlt0, jle0, jeq0, jge0, jgt0, jinB, jnat, clt, cle, ceq, cgt, cge, lI_add, lI_sub, lI_mul, jadd, jsub, jmul, jneg, jtol, b010, b011, pv_2t, Int.toNat_natCast, Option.some.injEq, exists_eq_left', if_true, if_false, jbit, cb]
            refine vs_ok 2 ?_
            rw [show ((gRes 29).drop 17).take 2 = [.iinc 3 1, .goto 8] from rfl]
            simp (disch := omega) only [vs_goto, vs_iinc3n, vs_iinc3i, vs_iinc3r, vs_iinc3l, vs_nil, gv_0, gv_1, gv_2, gv_3, pv_0, pv_1, va_rf_s, Nat.reduceDiv, Nat.reduceMod, Nat.reduceAdd, Nat.reduceMul, Int.reduceToNat, true_and, and_true, and_self, cP_eq, cP_ne, cP_lt, cP_ge, cP_gt, cP_le, eL_i, eL_l, eL_r, eL_n, Option.toList_none, Option.toList_some, List.nil_append, List.cons_append, kkI, llI, nnI, rrI, jjI, kkJ, llJ, nnJ, rrJ, iiJ, zIIs, zJJs, nEF, nET, and_false, false_and, jmin, jmax, catS_n, catS_i, catS_r, catS_l, Nat.reduceLeDiff, j1eq1, n21, jt0, jt1, Bool.false_eq_true, Classical.not_not, true_or, or_true, false_or, or_false, true_imp_iff, false_imp_iff, not_true_eq_false, not_false_eq_true, jif0, jif1, jifb, ltT, ltF, leT, leF, eqT, eqF, jlt, jle, jeq, jlt0, jle0, jeq0, jge0, jgt0, jinB, jnat, clt, cle, ceq, cgt, cge, lI_add, lI_sub, lI_mul, jadd, jsub, jmul, jneg, jtol, b010, b011, pv_2t, Int.toNat_natCast, Option.some.injEq, exists_eq_left', if_true, if_false]
            exact ihk (i + 1) (by omega) hE
      refine vs_ok 6 ?_
      rw [show ((gRes 29).drop 0).take 6 = [.iload 1, .ifCond .eq 4, .iload 2, .ifCond .gt 6, .jsr_w 1, .lreturn] from rfl]
      simp (disch := omega) only [vs_jsr_w, vs_ifCond, vs_lreturn, vs_iload1, vs_iload2, vs_nil, gv_0, gv_1, gv_2, gv_3, pv_0, pv_1, va_rf_s, Nat.reduceDiv, Nat.reduceMod, Nat.reduceAdd, Nat.reduceMul, Int.reduceToNat, true_and, and_true, and_self, cP_eq, cP_ne, cP_lt, cP_ge, cP_gt, cP_le, eL_i, eL_l, eL_r, eL_n, Option.toList_none, Option.toList_some, List.nil_append, List.cons_append, kkI, llI, nnI, rrI, jjI, kkJ, llJ, nnJ, rrJ, iiJ, zIIs, zJJs, nEF, nET, and_false, false_and, jmin, jmax, catS_n, catS_i, catS_r, catS_l, Nat.reduceLeDiff, j1eq1, n21, jt0, jt1, Bool.false_eq_true, Classical.not_not, true_or, or_true, false_or, or_false, true_imp_iff, false_imp_iff, not_true_eq_false, not_false_eq_true, jif0, jif1, jifb, ltT, ltF, leT, leF, eqT, eqF, jlt, jle, jeq, jlt0, jle0, jeq0, jge0, jgt0, jinB, jnat, clt, cle, ceq, cgt, cge, lI_add, lI_sub, lI_mul, jadd, jsub, jmul, jneg, jtol, b010, b011, pv_2t, Int.toNat_natCast, Option.some.injEq, exists_eq_left', if_true, if_false, show gRc 29 = 3 from rfl]
      refine vs_ok 2 ?_
      rw [show ((gRes 29).drop 6).take 2 = [.iconst 0, .istore 3] from rfl]
      simp (disch := omega) only [vs_iconst, vs_istore3n, vs_istore3i, vs_istore3r, vs_istore3l, vs_nil, gv_0, gv_1, gv_2, gv_3, pv_0, pv_1, va_rf_s, Nat.reduceDiv, Nat.reduceMod, Nat.reduceAdd, Nat.reduceMul, Int.reduceToNat, true_and, and_true, and_self, cP_eq, cP_ne, cP_lt, cP_ge, cP_gt, cP_le, eL_i, eL_l, eL_r, eL_n, Option.toList_none, Option.toList_some, List.nil_append, List.cons_append, kkI, llI, nnI, rrI, jjI, kkJ, llJ, nnJ, rrJ, iiJ, zIIs, zJJs, nEF, nET, and_false, false_and, jmin, jmax, catS_n, catS_i, catS_r, catS_l, Nat.reduceLeDiff, j1eq1, n21, jt0, jt1, Bool.false_eq_true, Classical.not_not, true_or, or_true, false_or, or_false, true_imp_iff, false_imp_iff, not_true_eq_false, not_false_eq_true, jif0, jif1, jifb, ltT, ltF, leT, leF, eqT, eqF, jlt, jle, jeq, jlt0, jle0, jeq0, jge0, jgt0, jinB, jnat, clt, cle, ceq, cgt, cge, lI_add, lI_sub, lI_mul, jadd, jsub, jmul, jneg, jtol, b010, b011, pv_2t, Int.toNat_natCast, Option.some.injEq, exists_eq_left', if_true, if_false]
      exact l1 6 0 (by omega) hF
