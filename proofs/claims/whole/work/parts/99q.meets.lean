/-! DiceRing: meets, apart, shift -/
/-- the sum of the parts that come to sum s by a last FACE of at most k -/
def meS (M W : Nat → Int) (tot : Int) (s : Nat) : Nat → Int
  | 0 => 0
  | k + 1 => meS M W tot s k + M (s - (k + 1)) * W (k + 1) / tot
/-- the parts of each sum up to s -/
def meF (W : Nat → Int) (tot : Int) : Nat → Nat → Int
  | 0 => fun i => if i = 0 then 1000000000000000 else 0
  | s + 1 => fun i => if i = s + 1 then meS (meF W tot s) W tot (s + 1) (s + 1) else meF W tot s i
theorem meS_congr {M M' W : Nat → Int} {tot : Int} {s : Nat} : ∀ k, k ≤ s → (∀ i, i < s → M i = M' i) → meS M W tot s k = meS M' W tot s k
  | 0, _, _ => rfl
  | k + 1, hk, h => by
    show meS M W tot s k + M (s - (k + 1)) * W (k + 1) / tot = meS M' W tot s k + M' (s - (k + 1)) * W (k + 1) / tot
    rw [meS_congr k (by omega) h, h (s - (k + 1)) (by omega)]
theorem meF_keep (W : Nat → Int) (tot : Int) {s i : Nat} (hi : i ≤ s) : ∀ k, meF W tot (s + k) i = meF W tot s i
  | 0 => rfl
  | k + 1 => by
    show (if i = s + k + 1 then _ else meF W tot (s + k) i) = _
    rw [if_neg (by omega), meF_keep W tot hi k]
/-- the sum of W 1 .. W k -/
def suW (W : Nat → Int) : Nat → Int
  | 0 => 0
  | k + 1 => suW W k + W (k + 1)
theorem meS_b {M W : Nat → Int} {tot b : Int} (ht : 0 < tot) (hb : 0 ≤ b) (hM : ∀ i, 0 ≤ M i ∧ M i ≤ b) (hW : ∀ i, 0 ≤ W i) (s : Nat) : ∀ k, 0 ≤ meS M W tot s k ∧ meS M W tot s k * tot ≤ b * suW W k
  | 0 => by show (0 : Int) ≤ 0 ∧ 0 * tot ≤ b * 0; omega
  | k + 1 => by
    have ih := meS_b ht hb hM hW s k
    have m := hM (s - (k + 1))
    have w := hW (k + 1)
    have p0 := Int.mul_nonneg m.1 w
    have p1 := Int.mul_le_mul_of_nonneg_right m.2 w
    have p2 := Int.ediv_mul_le (M (s - (k + 1)) * W (k + 1)) (show tot ≠ 0 by omega)
    have p3 := Int.ediv_nonneg p0 (show 0 ≤ tot by omega)
    show 0 ≤ meS M W tot s k + M (s - (k + 1)) * W (k + 1) / tot ∧ (meS M W tot s k + M (s - (k + 1)) * W (k + 1) / tot) * tot ≤ b * (suW W k + W (k + 1))
    rw [Int.add_mul, Int.mul_add]
    omega
theorem meF_b {W : Nat → Int} {tot : Int} (ht : 0 < tot) (hW : ∀ i, 0 ≤ W i) (hs : ∀ k, suW W k ≤ tot) : ∀ s i, 0 ≤ meF W tot s i ∧ meF W tot s i ≤ 1000000000000000
  | 0, i => by
    show 0 ≤ (if i = 0 then (1000000000000000 : Int) else 0) ∧ (if i = 0 then (1000000000000000 : Int) else 0) ≤ 1000000000000000
    split <;> omega
  | s + 1, i => by
    have ih := meF_b ht hW hs s
    show 0 ≤ (if i = s + 1 then meS (meF W tot s) W tot (s + 1) (s + 1) else meF W tot s i) ∧ (if i = s + 1 then meS (meF W tot s) W tot (s + 1) (s + 1) else meF W tot s i) ≤ 1000000000000000
    split
    · have := meS_b ht (show (0 : Int) ≤ 1000000000000000 by omega) ih hW (s + 1) (s + 1)
      refine ⟨this.1, ?_⟩
      have h2 := Int.mul_le_mul_of_nonneg_left (hs (s + 1)) (show (0 : Int) ≤ 1000000000000000 by omega)
      exact Int.le_of_mul_le_mul_right (Int.le_trans this.2 h2) ht
    · exact ih i
theorem suW_pS {W : Int → Int} (hW : ∀ m, 0 ≤ W m) : ∀ k : Nat, suW (fun i => W (i : Nat)) k ≤ pS W ((k : Int) + 1)
  | 0 => pS_nn hW _
  | k + 1 => by
    have ih := suW_pS hW k
    have := pS_s (f := W) (n := ((k + 1 : Nat) : Int)) (by omega)
    show suW (fun i => W (i : Nat)) k + W ((k + 1 : Nat) : Int) ≤ _
    have e : ((k : Int) + 1) = ((k + 1 : Nat) : Int) := by omega
    rw [e] at ih
    omega
/-- the parts of a value v -/
abbrev meV (v : RowVal) (s : Nat) : Nat → Int := meF (fun i => v.2.2.2 (i : Nat)) v.2.2.1 s
theorem meV_b {v : RowVal} (g : gV v) (s i : Nat) : 0 ≤ meV v s i ∧ meV v s i ≤ 1000000000000000 :=
  meF_b (by have := g.2.2.2.2.2; omega) (fun i => g.2.1 _) (fun k => Int.le_trans (suW_pS g.2.1 k) (pS_le g _)) s i
abbrev mtP (v : RowVal) (t : Int) : Prop := (0 ≤ t ∧ t ≤ 200) ∧ 1 ≤ v.1 ∧ v.2.2.1 ≤ 1000
theorem t_meets {d : Nat} {h : Hp} {x t : Nat} {nm k s : Int} {F Wd : Nat → Int} {V : Nat → RowVal} {Q : Nat → Option Value → Hp → Prop} (N : zK h x = 11 ∧ x < zN h) (h2 : zR h x 2 = some t) (y12 : zR h x 12 = some (x + 154) ∧ zK h (x + 154) = 15 ∧ x + 154 < zN h ∧ zL h (x + 154) = 201) (hb : isTb h t nm F Wd) (hd : x < t ∧ t + 28 ≤ x + 117) (hv : ∀ k, k < 12 → rowP h (t + 4 + 2 * k) 200 (V k)) (hg : ∀ k : Nat, (k : Int) < nm → gV (V k)) (hk : i32 k) (hs : i32 s)
    (q0 : ¬ ((0 ≤ k ∧ k < nm) ∧ mtP (V k.toNat) s) → Q 0 (some (.long (lI (-1)))) h)
    (q1 : (0 ≤ k ∧ k < nm) ∧ mtP (V k.toNat) s → ∀ g, fi (fun q => q = x + 154) h g → Q 0 (some (.long (lI (meV (V k.toNat) s.toNat s.toNat)))) g) : PR (d + 1) m_D_meets [.ref x, .int (iI k), .int (iI s)] h Q := by
  have b1 := hb.1
  have b2 := hb.2.1
  have b3 := hb.2.2.2.2.2
  have k1 := hk.1
  have k2 := hk.2
  have s1 := hs.1
  have s2 := hs.2
  show PW (d + 1) 176 0 [some (.ref x), some (.int (iI k)), some (.int (iI s)), none, none, none, none, none] [] h Q
  have no : ¬ ((0 ≤ k ∧ k < nm) ∧ mtP (V k.toNat) s) → PW (d + 1) 176 10 [some (.ref x), some (.int (iI k)), some (.int (iI s)), none, none, none, none, none] [] h Q := fun c => by
    refine vs_ok 2 ?_
    rw [show ((gRes 176).drop 10).take 2 = [.jsr_w (-1), .lreturn] from rfl]
    simp (disch := omega) only [vs_jsr_w, vs_lreturn, vs_nil, gv_0, gv_1, gv_2, gv_3, pv_0, pv_1, va_rf_s, Nat.reduceDiv, Nat.reduceMod, Nat.reduceAdd, Nat.reduceMul, Int.reduceToNat, true_and, and_true, and_self, cP_eq, cP_ne, cP_lt, cP_ge, cP_gt, cP_le, eL_i, eL_l, eL_r, eL_n, Option.toList_none, Option.toList_some, List.nil_append, List.cons_append, kkI, llI, nnI, rrI, jjI, kkJ, llJ, nnJ, rrJ, iiJ, zIIs, zJJs, nEF, nET, and_false, false_and, jmin, jmax, catS_n, catS_i, catS_r, catS_l, Nat.reduceLeDiff, j1eq1, n21, jt0, jt1, Bool.false_eq_true, Classical.not_not, true_or, or_true, false_or, or_false, true_imp_iff, false_imp_iff, not_true_eq_false, not_false_eq_true, jif0, jif1, jifb, ltT, ltF, leT, leF, eqT, eqF, jlt, jle, jeq, jlt0, jle0, jeq0, jge0, jgt0, jinB, jnat, clt, cle, ceq, cgt, cge, lI_add, lI_sub, lI_mul, jadd, jsub, jmul, jneg, jtol, b010, b011, pv_2t, Int.toNat_natCast, Option.some.injEq, exists_eq_left', if_true, if_false, show gRc 176 = 3 from rfl]
    exact q0 c
  refine vs_ok 3 ?_
  rw [show ((gRes 176).drop 0).take 3 = [.aload 0, .getfield 11022, .iload 1] from rfl]
  simp (disch := omega) only [vs_getfield, vs_aload0, vs_iload1, vs_nil, gv_0, gv_1, gv_2, gv_3, pv_0, pv_1, va_rf_s, Nat.reduceDiv, Nat.reduceMod, Nat.reduceAdd, Nat.reduceMul, Int.reduceToNat, true_and, and_true, and_self, cP_eq, cP_ne, cP_lt, cP_ge, cP_gt, cP_le, eL_i, eL_l, eL_r, eL_n, Option.toList_none, Option.toList_some, List.nil_append, List.cons_append, kkI, llI, nnI, rrI, jjI, kkJ, llJ, nnJ, rrJ, iiJ, zIIs, zJJs, nEF, nET, and_false, false_and, jmin, jmax, catS_n, catS_i, catS_r, catS_l, Nat.reduceLeDiff, j1eq1, n21, jt0, jt1, Bool.false_eq_true, Classical.not_not, true_or, or_true, false_or, or_false, true_imp_iff, false_imp_iff, not_true_eq_false, not_false_eq_true, jif0, jif1, jifb, ltT, ltF, leT, leF, eqT, eqF, jlt, jle, jeq, jlt0, jle0, jeq0, jge0, jgt0, jinB, jnat, clt, cle, ceq, cgt, cge, lI_add, lI_sub, lI_mul, jadd, jsub, jmul, jneg, jtol, b010, b011, pv_2t, Int.toNat_natCast, Option.some.injEq, exists_eq_left', if_true, if_false, N, h2]
  refine PW.iv rfl rfl rfl b1 (by omega) (le_b rfl) (le_b rfl) ?_
  refine t_hasI hb hk ⟨rfl, ⟨rfl, rfl⟩, ?_⟩
  by_cases ck : 0 ≤ k ∧ k < nm
  · rw [if_pos ck]
    by_cases cs : 0 ≤ s
    · by_cases cs2 : s ≤ 200
      · have gk := hg k.toNat (by omega)
        have R := hv k.toNat (by omega)
        have ro : t + 4 + 2 * k.toNat ≠ x + 154 ∧ t + 4 + 2 * k.toNat + 1 ≠ x + 154 := by omega
        have mb := meV_b gk
        generalize hV : V k.toNat = v at *
        obtain ⟨s, rfl⟩ : ∃ m : Nat, s = m := ⟨s.toNat, by omega⟩
        rw [Int.toNat_natCast] at q1
        refine vs_ok 6 ?_
        rw [show ((gRes 176).drop 4).take 6 = [.ifCond .eq 10, .iload 2, .ifCond .lt 10, .iload 2, .iconst 200, .if_icmp .le 12] from rfl]
        simp (disch := omega) only [vs_iconst, vs_if_icmp, vs_ifCond, vs_iload2, vs_nil, gv_0, gv_1, gv_2, gv_3, pv_0, pv_1, va_rf_s, Nat.reduceDiv, Nat.reduceMod, Nat.reduceAdd, Nat.reduceMul, Int.reduceToNat, true_and, and_true, and_self, cP_eq, cP_ne, cP_lt, cP_ge, cP_gt, cP_le, eL_i, eL_l, eL_r, eL_n, Option.toList_none, Option.toList_some, List.nil_append, List.cons_append, kkI, llI, nnI, rrI, jjI, kkJ, llJ, nnJ, rrJ, iiJ, zIIs, zJJs, nEF, nET, and_false, false_and, jmin, jmax, catS_n, catS_i, catS_r, catS_l, Nat.reduceLeDiff, j1eq1, n21, jt0, jt1, Bool.false_eq_true, Classical.not_not, true_or, or_true, false_or, or_false, true_imp_iff, false_imp_iff, not_true_eq_false, not_false_eq_true, jif0, jif1, jifb, ltT, ltF, leT, leF, eqT, eqF, jlt, jle, jeq, jlt0, jle0, jeq0, jge0, jgt0, jinB, jnat, clt, cle, ceq, cgt, cge, lI_add, lI_sub, lI_mul, jadd, jsub, jmul, jneg, jtol, b010, b011, pv_2t, Int.toNat_natCast, Option.some.injEq, exists_eq_left', if_true, if_false]
        refine vs_ok 3 ?_
        rw [show ((gRes 176).drop 12).take 3 = [.aload 0, .getfield 11022, .iload 1] from rfl]
        simp (disch := omega) only [vs_getfield, vs_aload0, vs_iload1, vs_nil, gv_0, gv_1, gv_2, gv_3, pv_0, pv_1, va_rf_s, Nat.reduceDiv, Nat.reduceMod, Nat.reduceAdd, Nat.reduceMul, Int.reduceToNat, true_and, and_true, and_self, cP_eq, cP_ne, cP_lt, cP_ge, cP_gt, cP_le, eL_i, eL_l, eL_r, eL_n, Option.toList_none, Option.toList_some, List.nil_append, List.cons_append, kkI, llI, nnI, rrI, jjI, kkJ, llJ, nnJ, rrJ, iiJ, zIIs, zJJs, nEF, nET, and_false, false_and, jmin, jmax, catS_n, catS_i, catS_r, catS_l, Nat.reduceLeDiff, j1eq1, n21, jt0, jt1, Bool.false_eq_true, Classical.not_not, true_or, or_true, false_or, or_false, true_imp_iff, false_imp_iff, not_true_eq_false, not_false_eq_true, jif0, jif1, jifb, ltT, ltF, leT, leF, eqT, eqF, jlt, jle, jeq, jlt0, jle0, jeq0, jge0, jgt0, jinB, jnat, clt, cle, ceq, cgt, cge, lI_add, lI_sub, lI_mul, jadd, jsub, jmul, jneg, jtol, b010, b011, pv_2t, Int.toNat_natCast, Option.some.injEq, exists_eq_left', if_true, if_false, N, h2]
        refine PW.iv rfl rfl rfl b1 (by omega) (le_b rfl) (le_b rfl) ?_
        refine t_rowI hb hk ck ⟨rfl, ⟨rfl, rok (by omega)⟩, ?_⟩
        generalize t + 4 + 2 * k.toNat = r at *
        have no2 : ¬ mtP v s → PW (d + 1) 176 31 [some (.ref x), some (.int (iI k)), some (.int (iI s)), some (.ref r), none, none, none, none] [] h Q := fun c => by
          refine vs_ok 2 ?_
          rw [show ((gRes 176).drop 31).take 2 = [.jsr_w (-1), .lreturn] from rfl]
          simp (disch := omega) only [vs_jsr_w, vs_lreturn, vs_nil, gv_0, gv_1, gv_2, gv_3, pv_0, pv_1, va_rf_s, Nat.reduceDiv, Nat.reduceMod, Nat.reduceAdd, Nat.reduceMul, Int.reduceToNat, true_and, and_true, and_self, cP_eq, cP_ne, cP_lt, cP_ge, cP_gt, cP_le, eL_i, eL_l, eL_r, eL_n, Option.toList_none, Option.toList_some, List.nil_append, List.cons_append, kkI, llI, nnI, rrI, jjI, kkJ, llJ, nnJ, rrJ, iiJ, zIIs, zJJs, nEF, nET, and_false, false_and, jmin, jmax, catS_n, catS_i, catS_r, catS_l, Nat.reduceLeDiff, j1eq1, n21, jt0, jt1, Bool.false_eq_true, Classical.not_not, true_or, or_true, false_or, or_false, true_imp_iff, false_imp_iff, not_true_eq_false, not_false_eq_true, jif0, jif1, jifb, ltT, ltF, leT, leF, eqT, eqF, jlt, jle, jeq, jlt0, jle0, jeq0, jge0, jgt0, jinB, jnat, clt, cle, ceq, cgt, cge, lI_add, lI_sub, lI_mul, jadd, jsub, jmul, jneg, jtol, b010, b011, pv_2t, Int.toNat_natCast, Option.some.injEq, exists_eq_left', if_true, if_false, show gRc 176 = 3 from rfl]
          exact q0 fun z => c z.2
        have r1 := R.1.1
        have r2 := R.1.2.1
        have r3 := R.2.1
        have r4 := R.2.2.1
        have r5 := R.2.2.2.1
        have g1 := gk.1
        have g6 := gk.2.2.2.2.2
        have gz := gk.2.2.1
        have gn := gk.2.1
        have gw := gk.w1
        obtain ⟨lo, hi, tot, W⟩ := v
        dsimp only at *
        by_cases c1 : 1 ≤ lo
        · by_cases c2 : tot ≤ 1000
          · have ok : (0 ≤ k ∧ k < nm) ∧ mtP (lo, hi, tot, W) s := ⟨ck, ⟨cs, cs2⟩, c1, c2⟩
            have q1 := q1 ok
            refine vs_ok 5 ?_
            rw [show ((gRes 176).drop 16).take 5 = [.astore 3, .aload 3, .getfield 6020, .iconst 1, .if_icmp .lt 31] from rfl]
            simp (disch := omega) only [vs_iconst, vs_if_icmp, vs_getfield, vs_aload3, vs_astore3n, vs_astore3i, vs_astore3r, vs_astore3l, vs_nil, gv_0, gv_1, gv_2, gv_3, pv_0, pv_1, va_rf_s, Nat.reduceDiv, Nat.reduceMod, Nat.reduceAdd, Nat.reduceMul, Int.reduceToNat, true_and, and_true, and_self, cP_eq, cP_ne, cP_lt, cP_ge, cP_gt, cP_le, eL_i, eL_l, eL_r, eL_n, Option.toList_none, Option.toList_some, List.nil_append, List.cons_append, kkI, llI, nnI, rrI, jjI, kkJ, llJ, nnJ, rrJ, iiJ, zIIs, zJJs, nEF, nET, and_false, false_and, jmin, jmax, catS_n, catS_i, catS_r, catS_l, Nat.reduceLeDiff, j1eq1, n21, jt0, jt1, Bool.false_eq_true, Classical.not_not, true_or, or_true, false_or, or_false, true_imp_iff, false_imp_iff, not_true_eq_false, not_false_eq_true, jif0, jif1, jifb, ltT, ltF, leT, leF, eqT, eqF, jlt, jle, jeq, jlt0, jle0, jeq0, jge0, jgt0, jinB, jnat, clt, cle, ceq, cgt, cge, lI_add, lI_sub, lI_mul, jadd, jsub, jmul, jneg, jtol, b010, b011, pv_2t, Int.toNat_natCast, Option.some.injEq, exists_eq_left', if_true, if_false, r1, r2, r3]
            refine vs_ok 5 ?_
            rw [show ((gRes 176).drop 21).take 5 = [.aload 3, .getfield 6041, .jsr_w 1000, .lcmp, .ifCond .gt 31] from rfl]
            simp (disch := omega) only [vs_lcmp, vs_jsr_w, vs_ifCond, vs_getfield, vs_aload3, vs_nil, gv_0, gv_1, gv_2, gv_3, pv_0, pv_1, va_rf_s, Nat.reduceDiv, Nat.reduceMod, Nat.reduceAdd, Nat.reduceMul, Int.reduceToNat, true_and, and_true, and_self, cP_eq, cP_ne, cP_lt, cP_ge, cP_gt, cP_le, eL_i, eL_l, eL_r, eL_n, Option.toList_none, Option.toList_some, List.nil_append, List.cons_append, kkI, llI, nnI, rrI, jjI, kkJ, llJ, nnJ, rrJ, iiJ, zIIs, zJJs, nEF, nET, and_false, false_and, jmin, jmax, catS_n, catS_i, catS_r, catS_l, Nat.reduceLeDiff, j1eq1, n21, jt0, jt1, Bool.false_eq_true, Classical.not_not, true_or, or_true, false_or, or_false, true_imp_iff, false_imp_iff, not_true_eq_false, not_false_eq_true, jif0, jif1, jifb, ltT, ltF, leT, leF, eqT, eqF, jlt, jle, jeq, jlt0, jle0, jeq0, jge0, jgt0, jinB, jnat, clt, cle, ceq, cgt, cge, lI_add, lI_sub, lI_mul, jadd, jsub, jmul, jneg, jtol, b010, b011, pv_2t, Int.toNat_natCast, Option.some.injEq, exists_eq_left', if_true, if_false, r1, r2, r5]
            refine vs_ok 5 ?_
            rw [show ((gRes 176).drop 26).take 5 = [.aload 3, .getfield 6041, .jsr_w 1, .lcmp, .ifCond .ge 33] from rfl]
            simp (disch := omega) only [vs_lcmp, vs_jsr_w, vs_ifCond, vs_getfield, vs_aload3, vs_nil, gv_0, gv_1, gv_2, gv_3, pv_0, pv_1, va_rf_s, Nat.reduceDiv, Nat.reduceMod, Nat.reduceAdd, Nat.reduceMul, Int.reduceToNat, true_and, and_true, and_self, cP_eq, cP_ne, cP_lt, cP_ge, cP_gt, cP_le, eL_i, eL_l, eL_r, eL_n, Option.toList_none, Option.toList_some, List.nil_append, List.cons_append, kkI, llI, nnI, rrI, jjI, kkJ, llJ, nnJ, rrJ, iiJ, zIIs, zJJs, nEF, nET, and_false, false_and, jmin, jmax, catS_n, catS_i, catS_r, catS_l, Nat.reduceLeDiff, j1eq1, n21, jt0, jt1, Bool.false_eq_true, Classical.not_not, true_or, or_true, false_or, or_false, true_imp_iff, false_imp_iff, not_true_eq_false, not_false_eq_true, jif0, jif1, jifb, ltT, ltF, leT, leF, eqT, eqF, jlt, jle, jeq, jlt0, jle0, jeq0, jge0, jgt0, jinB, jnat, clt, cle, ceq, cgt, cge, lI_add, lI_sub, lI_mul, jadd, jsub, jmul, jneg, jtol, b010, b011, pv_2t, Int.toNat_natCast, Option.some.injEq, exists_eq_left', if_true, if_false, r1, r2, r5]
            refine vs_ok 7 ?_
            rw [show ((gRes 176).drop 33).take 7 = [.aload 0, .getfield 11122, .iconst 0, .jsr_w 1000000000000000, .lastore, .iconst 1, .istore 4] from rfl]
            simp (disch := omega) only [vs_iconst, vs_jsr_w, vs_getfield, vs_lastore, vs_aload0, vs_istore4n, vs_istore4i, vs_istore4r, vs_istore4l, vs_nil, gv_0, gv_1, gv_2, gv_3, pv_0, pv_1, va_rf_s, Nat.reduceDiv, Nat.reduceMod, Nat.reduceAdd, Nat.reduceMul, Int.reduceToNat, true_and, and_true, and_self, cP_eq, cP_ne, cP_lt, cP_ge, cP_gt, cP_le, eL_i, eL_l, eL_r, eL_n, Option.toList_none, Option.toList_some, List.nil_append, List.cons_append, kkI, llI, nnI, rrI, jjI, kkJ, llJ, nnJ, rrJ, iiJ, zIIs, zJJs, nEF, nET, and_false, false_and, jmin, jmax, catS_n, catS_i, catS_r, catS_l, Nat.reduceLeDiff, j1eq1, n21, jt0, jt1, Bool.false_eq_true, Classical.not_not, true_or, or_true, false_or, or_false, true_imp_iff, false_imp_iff, not_true_eq_false, not_false_eq_true, jif0, jif1, jifb, ltT, ltF, leT, leF, eqT, eqF, jlt, jle, jeq, jlt0, jle0, jeq0, jge0, jgt0, jinB, jnat, clt, cle, ceq, cgt, cge, lI_add, lI_sub, lI_mul, jadd, jsub, jmul, jneg, jtol, b010, b011, pv_2t, Int.toNat_natCast, Option.some.injEq, exists_eq_left', if_true, if_false, N, y12]
            have f0 : fi (fun q => q = x + 154) h (zsJ h (x + 154) 0 (lI 1000000000000000)) := fi_J rfl
            have J0 : ∀ i, i ≤ 0 → zJ (zsJ h (x + 154) 0 (lI 1000000000000000)) (x + 154) i = lI (meV (lo, hi, tot, W) 0 i) := fun i hi => by
              have : i = 0 := by omega
              subst this
              rw [zJ_sJ, if_pos ⟨rfl, rfl⟩]
              rfl
            generalize zsJ h (x + 154) 0 (lI 1000000000000000) = g0 at *
            have lp : ∀ (j m : Nat) (o5 o6 o7 : Option Value) (g : Hp), j + m = s → fi (fun q => q = x + 154) h g → (∀ i, i ≤ m → zJ g (x + 154) i = lI (meV (lo, hi, tot, W) m i)) → PW (d + 1) 176 40 [some (.ref x), some (.int (iI k)), some (.int (iI s)), some (.ref r), some (.int (iI ((m + 1 : Nat) : Int))), o5, o6, o7] [] g Q := by
              intro j
              induction j with
              | zero =>
                intro m o5 o6 o7 g hm f hJ
                have em : m = s := by omega
                subst em
                have Ng : zK g x = 11 ∧ x < zN g := ⟨by rw [f.1.1]; exact N.1, by rw [f.1.2.2.1]; exact N.2⟩
                have Yg : zR g x 12 = some (x + 154) ∧ zK g (x + 154) = 15 ∧ x + 154 < zN g ∧ zL g (x + 154) = 201 := by rw [f.2, f.1.1, f.1.2.2.1, f.1.2.1]; exact y12
                have vJ := hJ m (by omega)
                refine vs_ok 3 ?_
                rw [show ((gRes 176).drop 40).take 3 = [.iload 4, .iload 2, .if_icmp .gt 80] from rfl]
                simp (disch := omega) only [vs_if_icmp, vs_iload2, vs_iload4, vs_nil, gv_0, gv_1, gv_2, gv_3, pv_0, pv_1, va_rf_s, Nat.reduceDiv, Nat.reduceMod, Nat.reduceAdd, Nat.reduceMul, Int.reduceToNat, true_and, and_true, and_self, cP_eq, cP_ne, cP_lt, cP_ge, cP_gt, cP_le, eL_i, eL_l, eL_r, eL_n, Option.toList_none, Option.toList_some, List.nil_append, List.cons_append, kkI, llI, nnI, rrI, jjI, kkJ, llJ, nnJ, rrJ, iiJ, zIIs, zJJs, nEF, nET, and_false, false_and, jmin, jmax, catS_n, catS_i, catS_r, catS_l, Nat.reduceLeDiff, j1eq1, n21, jt0, jt1, Bool.false_eq_true, Classical.not_not, true_or, or_true, false_or, or_false, true_imp_iff, false_imp_iff, not_true_eq_false, not_false_eq_true, jif0, jif1, jifb, ltT, ltF, leT, leF, eqT, eqF, jlt, jle, jeq, jlt0, jle0, jeq0, jge0, jgt0, jinB, jnat, clt, cle, ceq, cgt, cge, lI_add, lI_sub, lI_mul, jadd, jsub, jmul, jneg, jtol, b010, b011, pv_2t, Int.toNat_natCast, Option.some.injEq, exists_eq_left', if_true, if_false]
                refine vs_ok 5 ?_
                rw [show ((gRes 176).drop 80).take 5 = [.aload 0, .getfield 11122, .iload 2, .laload, .lreturn] from rfl]
                simp (disch := omega) only [vs_getfield, vs_laload, vs_lreturn, vs_aload0, vs_iload2, vs_nil, gv_0, gv_1, gv_2, gv_3, pv_0, pv_1, va_rf_s, Nat.reduceDiv, Nat.reduceMod, Nat.reduceAdd, Nat.reduceMul, Int.reduceToNat, true_and, and_true, and_self, cP_eq, cP_ne, cP_lt, cP_ge, cP_gt, cP_le, eL_i, eL_l, eL_r, eL_n, Option.toList_none, Option.toList_some, List.nil_append, List.cons_append, kkI, llI, nnI, rrI, jjI, kkJ, llJ, nnJ, rrJ, iiJ, zIIs, zJJs, nEF, nET, and_false, false_and, jmin, jmax, catS_n, catS_i, catS_r, catS_l, Nat.reduceLeDiff, j1eq1, n21, jt0, jt1, Bool.false_eq_true, Classical.not_not, true_or, or_true, false_or, or_false, true_imp_iff, false_imp_iff, not_true_eq_false, not_false_eq_true, jif0, jif1, jifb, ltT, ltF, leT, leF, eqT, eqF, jlt, jle, jeq, jlt0, jle0, jeq0, jge0, jgt0, jinB, jnat, clt, cle, ceq, cgt, cge, lI_add, lI_sub, lI_mul, jadd, jsub, jmul, jneg, jtol, b010, b011, pv_2t, Int.toNat_natCast, Option.some.injEq, exists_eq_left', if_true, if_false, Ng, Yg, vJ, show gRc 176 = 3 from rfl]
                exact q1 g f
              | succ j ih =>
                intro m o5 o6 o7 g hm f hJ
                have Ng : zK g x = 11 ∧ x < zN g := ⟨by rw [f.1.1]; exact N.1, by rw [f.1.2.2.1]; exact N.2⟩
                have Yg : zR g x 12 = some (x + 154) ∧ zK g (x + 154) = 15 ∧ x + 154 < zN g ∧ zL g (x + 154) = 201 := by rw [f.2, f.1.1, f.1.2.2.1, f.1.2.1]; exact y12
                have Rg := R.keep f.1 ro.1 ro.2
                have u1 : zK g r = 6 := Rg.1.1
                have u2 := Rg.1.2.1
                have u3 := Rg.2.1
                have u4 := Rg.2.2.1
                have u5 := Rg.2.2.2.1
                have mb' := mb m
                have sb : ∀ q, 0 ≤ meS (meV (lo, hi, tot, W) m) (fun i => W (i : Nat)) tot (m + 1) q ∧ meS (meV (lo, hi, tot, W) m) (fun i => W (i : Nat)) tot (m + 1) q ≤ 1000000000000000 := fun q => by
                  have a := meS_b (tot := tot) (by omega) (show (0 : Int) ≤ 1000000000000000 by omega) mb' (W := fun i => W (i : Nat)) (fun i => gn _) (m + 1) q
                  refine ⟨a.1, ?_⟩
                  have h3 := Int.le_trans (suW_pS gn q) (pS_le gk _)
                  have h4 := Int.mul_le_mul_of_nonneg_left h3 (show (0 : Int) ≤ 1000000000000000 by omega)
                  exact Int.le_of_mul_le_mul_right (Int.le_trans a.2 h4) (by show 0 < tot; omega)
                -- the numbers below the least add nothing
                have lw : ∀ q : Nat, (q : Int) < lo → meS (meV (lo, hi, tot, W) m) (fun i => W (i : Nat)) tot (m + 1) q = 0 := fun q hq => by
                  induction q with
                  | zero => rfl
                  | succ q ih =>
                    show meS _ _ tot (m + 1) q + meV (lo, hi, tot, W) m _ * W ((q + 1 : Nat) : Int) / tot = 0
                    rw [ih (by omega), gz _ (by omega), Int.mul_zero, Int.zero_ediv]
                    rfl
                have hg2 : ∀ n q : Nat, hi ≤ q → meS (meV (lo, hi, tot, W) m) (fun i => W (i : Nat)) tot (m + 1) (q + n) = meS (meV (lo, hi, tot, W) m) (fun i => W (i : Nat)) tot (m + 1) q := fun n q hq => by
                  induction n with
                  | zero => rfl
                  | succ n ih =>
                    show meS _ _ tot (m + 1) (q + n) + meV (lo, hi, tot, W) m _ * W ((q + n + 1 : Nat) : Int) / tot = _
                    rw [ih, gz _ (by omega), Int.mul_zero, Int.zero_ediv]
                    omega
                have fin : ∀ (z : Int) (o7 : Option Value), z = meS (meV (lo, hi, tot, W) m) (fun i => W (i : Nat)) tot (m + 1) (m + 1) → PW (d + 1) 176 73 [some (.ref x), some (.int (iI k)), some (.int (iI s)), some (.ref r), some (.int (iI ((m + 1 : Nat) : Int))), some (.long (lI z)), none, o7] [] g Q := fun z o7 hz => by
                  refine vs_ok 7 ?_
                  rw [show ((gRes 176).drop 73).take 7 = [.aload 0, .getfield 11122, .iload 4, .lload 5, .lastore, .iinc 4 1, .goto 40] from rfl]
                  simp (disch := omega) only [vs_goto, vs_getfield, vs_lastore, vs_aload0, vs_iload4, vs_iinc4n, vs_iinc4i, vs_iinc4r, vs_iinc4l, vs_lload5, vs_nil, gv_0, gv_1, gv_2, gv_3, pv_0, pv_1, va_rf_s, Nat.reduceDiv, Nat.reduceMod, Nat.reduceAdd, Nat.reduceMul, Int.reduceToNat, true_and, and_true, and_self, cP_eq, cP_ne, cP_lt, cP_ge, cP_gt, cP_le, eL_i, eL_l, eL_r, eL_n, Option.toList_none, Option.toList_some, List.nil_append, List.cons_append, kkI, llI, nnI, rrI, jjI, kkJ, llJ, nnJ, rrJ, iiJ, zIIs, zJJs, nEF, nET, and_false, false_and, jmin, jmax, catS_n, catS_i, catS_r, catS_l, Nat.reduceLeDiff, j1eq1, n21, jt0, jt1, Bool.false_eq_true, Classical.not_not, true_or, or_true, false_or, or_false, true_imp_iff, false_imp_iff, not_true_eq_false, not_false_eq_true, jif0, jif1, jifb, ltT, ltF, leT, leF, eqT, eqF, jlt, jle, jeq, jlt0, jle0, jeq0, jge0, jgt0, jinB, jnat, clt, cle, ceq, cgt, cge, lI_add, lI_sub, lI_mul, jadd, jsub, jmul, jneg, jtol, b010, b011, pv_2t, Int.toNat_natCast, Option.some.injEq, exists_eq_left', if_true, if_false, Ng, Yg]
                  refine ih (m + 1) _ _ _ _ (by omega) (f.J rfl) fun i hi' => ?_
                  rw [zJ_sJ]
                  show _ = lI (if i = m + 1 then _ else meV (lo, hi, tot, W) m i)
                  by_cases y : i = m + 1
                  · rw [if_pos ⟨rfl, y⟩, if_pos y, hz]
                  · rw [if_neg fun z => y z.2, if_neg y]
                    exact hJ i (by omega)
                have l2 : ∀ (n v : Nat), n + v = min (m + 1) hi.toNat + 1 → lo ≤ v → PW (d + 1) 176 48 [some (.ref x), some (.int (iI k)), some (.int (iI s)), some (.ref r), some (.int (iI ((m + 1 : Nat) : Int))), some (.long (lI (meS (meV (lo, hi, tot, W) m) (fun i => W (i : Nat)) tot (m + 1) (v - 1)))), none, some (.int (iI v))] [] g Q := by
                  intro n
                  induction n with
                  | zero =>
                    intro v hv2 hlo
                    by_cases c : hi < v
                    · refine vs_ok 4 ?_
                      rw [show ((gRes 176).drop 48).take 4 = [.iload 7, .aload 3, .getfield 6030, .if_icmp .gt 73] from rfl]
                      simp (disch := omega) only [vs_if_icmp, vs_getfield, vs_aload3, vs_iload7, vs_nil, gv_0, gv_1, gv_2, gv_3, pv_0, pv_1, va_rf_s, Nat.reduceDiv, Nat.reduceMod, Nat.reduceAdd, Nat.reduceMul, Int.reduceToNat, true_and, and_true, and_self, cP_eq, cP_ne, cP_lt, cP_ge, cP_gt, cP_le, eL_i, eL_l, eL_r, eL_n, Option.toList_none, Option.toList_some, List.nil_append, List.cons_append, kkI, llI, nnI, rrI, jjI, kkJ, llJ, nnJ, rrJ, iiJ, zIIs, zJJs, nEF, nET, and_false, false_and, jmin, jmax, catS_n, catS_i, catS_r, catS_l, Nat.reduceLeDiff, j1eq1, n21, jt0, jt1, Bool.false_eq_true, Classical.not_not, true_or, or_true, false_or, or_false, true_imp_iff, false_imp_iff, not_true_eq_false, not_false_eq_true, jif0, jif1, jifb, ltT, ltF, leT, leF, eqT, eqF, jlt, jle, jeq, jlt0, jle0, jeq0, jge0, jgt0, jinB, jnat, clt, cle, ceq, cgt, cge, lI_add, lI_sub, lI_mul, jadd, jsub, jmul, jneg, jtol, b010, b011, pv_2t, Int.toNat_natCast, Option.some.injEq, exists_eq_left', if_true, if_false, u1, u2, u4]
                      refine fin _ _ ?_
                      have := hg2 (m + 1 - (v - 1)) (v - 1) (by omega)
                      rw [show v - 1 + (m + 1 - (v - 1)) = m + 1 by omega] at this
                      exact this.symm
                    · have ev : v = m + 2 := by omega
                      subst ev
                      refine vs_ok 4 ?_
                      rw [show ((gRes 176).drop 48).take 4 = [.iload 7, .aload 3, .getfield 6030, .if_icmp .gt 73] from rfl]
                      simp (disch := omega) only [vs_if_icmp, vs_getfield, vs_aload3, vs_iload7, vs_nil, gv_0, gv_1, gv_2, gv_3, pv_0, pv_1, va_rf_s, Nat.reduceDiv, Nat.reduceMod, Nat.reduceAdd, Nat.reduceMul, Int.reduceToNat, true_and, and_true, and_self, cP_eq, cP_ne, cP_lt, cP_ge, cP_gt, cP_le, eL_i, eL_l, eL_r, eL_n, Option.toList_none, Option.toList_some, List.nil_append, List.cons_append, kkI, llI, nnI, rrI, jjI, kkJ, llJ, nnJ, rrJ, iiJ, zIIs, zJJs, nEF, nET, and_false, false_and, jmin, jmax, catS_n, catS_i, catS_r, catS_l, Nat.reduceLeDiff, j1eq1, n21, jt0, jt1, Bool.false_eq_true, Classical.not_not, true_or, or_true, false_or, or_false, true_imp_iff, false_imp_iff, not_true_eq_false, not_false_eq_true, jif0, jif1, jifb, ltT, ltF, leT, leF, eqT, eqF, jlt, jle, jeq, jlt0, jle0, jeq0, jge0, jgt0, jinB, jnat, clt, cle, ceq, cgt, cge, lI_add, lI_sub, lI_mul, jadd, jsub, jmul, jneg, jtol, b010, b011, pv_2t, Int.toNat_natCast, Option.some.injEq, exists_eq_left', if_true, if_false, u1, u2, u4]
                      refine vs_ok 3 ?_
                      rw [show ((gRes 176).drop 52).take 3 = [.iload 7, .iload 4, .if_icmp .gt 73] from rfl]
                      simp (disch := omega) only [vs_if_icmp, vs_iload4, vs_iload7, vs_nil, gv_0, gv_1, gv_2, gv_3, pv_0, pv_1, va_rf_s, Nat.reduceDiv, Nat.reduceMod, Nat.reduceAdd, Nat.reduceMul, Int.reduceToNat, true_and, and_true, and_self, cP_eq, cP_ne, cP_lt, cP_ge, cP_gt, cP_le, eL_i, eL_l, eL_r, eL_n, Option.toList_none, Option.toList_some, List.nil_append, List.cons_append, kkI, llI, nnI, rrI, jjI, kkJ, llJ, nnJ, rrJ, iiJ, zIIs, zJJs, nEF, nET, and_false, false_and, jmin, jmax, catS_n, catS_i, catS_r, catS_l, Nat.reduceLeDiff, j1eq1, n21, jt0, jt1, Bool.false_eq_true, Classical.not_not, true_or, or_true, false_or, or_false, true_imp_iff, false_imp_iff, not_true_eq_false, not_false_eq_true, jif0, jif1, jifb, ltT, ltF, leT, leF, eqT, eqF, jlt, jle, jeq, jlt0, jle0, jeq0, jge0, jgt0, jinB, jnat, clt, cle, ceq, cgt, cge, lI_add, lI_sub, lI_mul, jadd, jsub, jmul, jneg, jtol, b010, b011, pv_2t, Int.toNat_natCast, Option.some.injEq, exists_eq_left', if_true, if_false]
                      exact fin _ _ rfl
                  | succ n ih2 =>
                    intro v hv2 hlo
                    have z := ih2 (v + 1) (by omega) (by omega)
                    rw [show v + 1 - 1 = v by omega] at z
                    have es : meS (meV (lo, hi, tot, W) m) (fun i => W (i : Nat)) tot (m + 1) v = meS (meV (lo, hi, tot, W) m) (fun i => W (i : Nat)) tot (m + 1) (v - 1) + meV (lo, hi, tot, W) m (m + 1 - v) * W (v : Nat) / tot := by
                      obtain ⟨w, rfl⟩ : ∃ w, v = w + 1 := ⟨v - 1, by omega⟩
                      rfl
                    have sv := sb v
                    have sv1 := sb (v - 1)
                    rw [es] at z sv
                    have vJ := hJ (m + 1 - v) (by omega)
                    have mq := mb' (m + 1 - v)
                    have wq := gn (v : Nat)
                    have wq2 := gw (v : Nat)
                    have p0 := Int.mul_nonneg mq.1 wq
                    have p1 := Int.mul_le_mul mq.2 (show W (v : Nat) ≤ 1000 by omega) wq (by omega)
                    have iq : (((m + 1 : Nat) : Int) - (v : Int)) = ((m + 1 - v : Nat) : Int) := by omega
                    generalize meV (lo, hi, tot, W) m (m + 1 - v) = M at *
                    generalize meS (meV (lo, hi, tot, W) m) (fun i => W (i : Nat)) tot (m + 1) (v - 1) = S0 at *
                    refine vs_ok 4 ?_
                    rw [show ((gRes 176).drop 48).take 4 = [.iload 7, .aload 3, .getfield 6030, .if_icmp .gt 73] from rfl]
                    simp (disch := omega) only [vs_if_icmp, vs_getfield, vs_aload3, vs_iload7, vs_nil, gv_0, gv_1, gv_2, gv_3, pv_0, pv_1, va_rf_s, Nat.reduceDiv, Nat.reduceMod, Nat.reduceAdd, Nat.reduceMul, Int.reduceToNat, true_and, and_true, and_self, cP_eq, cP_ne, cP_lt, cP_ge, cP_gt, cP_le, eL_i, eL_l, eL_r, eL_n, Option.toList_none, Option.toList_some, List.nil_append, List.cons_append, kkI, llI, nnI, rrI, jjI, kkJ, llJ, nnJ, rrJ, iiJ, zIIs, zJJs, nEF, nET, and_false, false_and, jmin, jmax, catS_n, catS_i, catS_r, catS_l, Nat.reduceLeDiff, j1eq1, n21, jt0, jt1, Bool.false_eq_true, Classical.not_not, true_or, or_true, false_or, or_false, true_imp_iff, false_imp_iff, not_true_eq_false, not_false_eq_true, jif0, jif1, jifb, ltT, ltF, leT, leF, eqT, eqF, jlt, jle, jeq, jlt0, jle0, jeq0, jge0, jgt0, jinB, jnat, clt, cle, ceq, cgt, cge, lI_add, lI_sub, lI_mul, jadd, jsub, jmul, jneg, jtol, b010, b011, pv_2t, Int.toNat_natCast, Option.some.injEq, exists_eq_left', if_true, if_false, u1, u2, u4]
                    refine vs_ok 3 ?_
                    rw [show ((gRes 176).drop 52).take 3 = [.iload 7, .iload 4, .if_icmp .gt 73] from rfl]
                    simp (disch := omega) only [vs_if_icmp, vs_iload4, vs_iload7, vs_nil, gv_0, gv_1, gv_2, gv_3, pv_0, pv_1, va_rf_s, Nat.reduceDiv, Nat.reduceMod, Nat.reduceAdd, Nat.reduceMul, Int.reduceToNat, true_and, and_true, and_self, cP_eq, cP_ne, cP_lt, cP_ge, cP_gt, cP_le, eL_i, eL_l, eL_r, eL_n, Option.toList_none, Option.toList_some, List.nil_append, List.cons_append, kkI, llI, nnI, rrI, jjI, kkJ, llJ, nnJ, rrJ, iiJ, zIIs, zJJs, nEF, nET, and_false, false_and, jmin, jmax, catS_n, catS_i, catS_r, catS_l, Nat.reduceLeDiff, j1eq1, n21, jt0, jt1, Bool.false_eq_true, Classical.not_not, true_or, or_true, false_or, or_false, true_imp_iff, false_imp_iff, not_true_eq_false, not_false_eq_true, jif0, jif1, jifb, ltT, ltF, leT, leF, eqT, eqF, jlt, jle, jeq, jlt0, jle0, jeq0, jge0, jgt0, jinB, jnat, clt, cle, ceq, cgt, cge, lI_add, lI_sub, lI_mul, jadd, jsub, jmul, jneg, jtol, b010, b011, pv_2t, Int.toNat_natCast, Option.some.injEq, exists_eq_left', if_true, if_false]
                    refine vs_ok 9 ?_
                    rw [show ((gRes 176).drop 55).take 9 = [.lload 5, .aload 0, .getfield 11122, .iload 4, .iload 7, .isub, .laload, .aload 3, .iload 7] from rfl]
                    simp (disch := omega) only [vs_isub, vs_getfield, vs_laload, vs_aload0, vs_aload3, vs_iload4, vs_lload5, vs_iload7, vs_nil, gv_0, gv_1, gv_2, gv_3, pv_0, pv_1, va_rf_s, Nat.reduceDiv, Nat.reduceMod, Nat.reduceAdd, Nat.reduceMul, Int.reduceToNat, true_and, and_true, and_self, cP_eq, cP_ne, cP_lt, cP_ge, cP_gt, cP_le, eL_i, eL_l, eL_r, eL_n, Option.toList_none, Option.toList_some, List.nil_append, List.cons_append, kkI, llI, nnI, rrI, jjI, kkJ, llJ, nnJ, rrJ, iiJ, zIIs, zJJs, nEF, nET, and_false, false_and, jmin, jmax, catS_n, catS_i, catS_r, catS_l, Nat.reduceLeDiff, j1eq1, n21, jt0, jt1, Bool.false_eq_true, Classical.not_not, true_or, or_true, false_or, or_false, true_imp_iff, false_imp_iff, not_true_eq_false, not_false_eq_true, jif0, jif1, jifb, ltT, ltF, leT, leF, eqT, eqF, jlt, jle, jeq, jlt0, jle0, jeq0, jge0, jgt0, jinB, jnat, clt, cle, ceq, cgt, cge, lI_add, lI_sub, lI_mul, jadd, jsub, jmul, jneg, jtol, b010, b011, pv_2t, Int.toNat_natCast, Option.some.injEq, exists_eq_left', if_true, if_false, Ng, Yg, iq, vJ]
                    refine PW.iv rfl rfl rfl u1 u2 (le_b rfl) (le_b rfl) ?_
                    refine t_atW Rg (by constructor <;> omega) ⟨rfl, ⟨rfl, rfl⟩, ?_⟩
                    generalize hP : M * W (v : Nat) = P at *
                    refine vs_ok 8 ?_
                    rw [show ((gRes 176).drop 65).take 8 = [.lmul, .aload 3, .getfield 6041, .ldiv, .ladd, .lstore 5, .iinc 7 1, .goto 48] from rfl]
                    simp (disch := omega) only [vs_ladd, vs_lmul, vs_ldiv, vs_goto, vs_getfield, vs_aload3, vs_lstore5n, vs_lstore5i, vs_lstore5r, vs_lstore5l, vs_iinc7n, vs_iinc7i, vs_iinc7r, vs_iinc7l, vs_nil, gv_0, gv_1, gv_2, gv_3, pv_0, pv_1, va_rf_s, Nat.reduceDiv, Nat.reduceMod, Nat.reduceAdd, Nat.reduceMul, Int.reduceToNat, true_and, and_true, and_self, cP_eq, cP_ne, cP_lt, cP_ge, cP_gt, cP_le, eL_i, eL_l, eL_r, eL_n, Option.toList_none, Option.toList_some, List.nil_append, List.cons_append, kkI, llI, nnI, rrI, jjI, kkJ, llJ, nnJ, rrJ, iiJ, zIIs, zJJs, nEF, nET, and_false, false_and, jmin, jmax, catS_n, catS_i, catS_r, catS_l, Nat.reduceLeDiff, j1eq1, n21, jt0, jt1, Bool.false_eq_true, Classical.not_not, true_or, or_true, false_or, or_false, true_imp_iff, false_imp_iff, not_true_eq_false, not_false_eq_true, jif0, jif1, jifb, ltT, ltF, leT, leF, eqT, eqF, jlt, jle, jeq, jlt0, jle0, jeq0, jge0, jgt0, jinB, jnat, clt, cle, ceq, cgt, cge, lI_add, lI_sub, lI_mul, jadd, jsub, jmul, jneg, jtol, b010, b011, pv_2t, Int.toNat_natCast, Option.some.injEq, exists_eq_left', if_true, if_false, u1, u2, u5, hP, jldiv, jl0]
                    exact z
                refine vs_ok 3 ?_
                rw [show ((gRes 176).drop 40).take 3 = [.iload 4, .iload 2, .if_icmp .gt 80] from rfl]
                simp (disch := omega) only [vs_if_icmp, vs_iload2, vs_iload4, vs_nil, gv_0, gv_1, gv_2, gv_3, pv_0, pv_1, va_rf_s, Nat.reduceDiv, Nat.reduceMod, Nat.reduceAdd, Nat.reduceMul, Int.reduceToNat, true_and, and_true, and_self, cP_eq, cP_ne, cP_lt, cP_ge, cP_gt, cP_le, eL_i, eL_l, eL_r, eL_n, Option.toList_none, Option.toList_some, List.nil_append, List.cons_append, kkI, llI, nnI, rrI, jjI, kkJ, llJ, nnJ, rrJ, iiJ, zIIs, zJJs, nEF, nET, and_false, false_and, jmin, jmax, catS_n, catS_i, catS_r, catS_l, Nat.reduceLeDiff, j1eq1, n21, jt0, jt1, Bool.false_eq_true, Classical.not_not, true_or, or_true, false_or, or_false, true_imp_iff, false_imp_iff, not_true_eq_false, not_false_eq_true, jif0, jif1, jifb, ltT, ltF, leT, leF, eqT, eqF, jlt, jle, jeq, jlt0, jle0, jeq0, jge0, jgt0, jinB, jnat, clt, cle, ceq, cgt, cge, lI_add, lI_sub, lI_mul, jadd, jsub, jmul, jneg, jtol, b010, b011, pv_2t, Int.toNat_natCast, Option.some.injEq, exists_eq_left', if_true, if_false]
                refine vs_ok 5 ?_
                rw [show ((gRes 176).drop 43).take 5 = [.jsr_w 0, .lstore 5, .aload 3, .getfield 6020, .istore 7] from rfl]
                simp (disch := omega) only [vs_jsr_w, vs_getfield, vs_aload3, vs_lstore5n, vs_lstore5i, vs_lstore5r, vs_lstore5l, vs_istore7n, vs_istore7i, vs_istore7r, vs_istore7l, vs_nil, gv_0, gv_1, gv_2, gv_3, pv_0, pv_1, va_rf_s, Nat.reduceDiv, Nat.reduceMod, Nat.reduceAdd, Nat.reduceMul, Int.reduceToNat, true_and, and_true, and_self, cP_eq, cP_ne, cP_lt, cP_ge, cP_gt, cP_le, eL_i, eL_l, eL_r, eL_n, Option.toList_none, Option.toList_some, List.nil_append, List.cons_append, kkI, llI, nnI, rrI, jjI, kkJ, llJ, nnJ, rrJ, iiJ, zIIs, zJJs, nEF, nET, and_false, false_and, jmin, jmax, catS_n, catS_i, catS_r, catS_l, Nat.reduceLeDiff, j1eq1, n21, jt0, jt1, Bool.false_eq_true, Classical.not_not, true_or, or_true, false_or, or_false, true_imp_iff, false_imp_iff, not_true_eq_false, not_false_eq_true, jif0, jif1, jifb, ltT, ltF, leT, leF, eqT, eqF, jlt, jle, jeq, jlt0, jle0, jeq0, jge0, jgt0, jinB, jnat, clt, cle, ceq, cgt, cge, lI_add, lI_sub, lI_mul, jadd, jsub, jmul, jneg, jtol, b010, b011, pv_2t, Int.toNat_natCast, Option.some.injEq, exists_eq_left', if_true, if_false, u1, u2, u3]
                by_cases cl : lo ≤ m + 1
                · have := l2 (min (m + 1) hi.toNat + 1 - lo.toNat) lo.toNat (by omega) (by omega)
                  rw [lw (lo.toNat - 1) (by omega), show ((lo.toNat : Nat) : Int) = lo by omega] at this
                  exact this
                · refine vs_ok 4 ?_
                  rw [show ((gRes 176).drop 48).take 4 = [.iload 7, .aload 3, .getfield 6030, .if_icmp .gt 73] from rfl]
                  simp (disch := omega) only [vs_if_icmp, vs_getfield, vs_aload3, vs_iload7, vs_nil, gv_0, gv_1, gv_2, gv_3, pv_0, pv_1, va_rf_s, Nat.reduceDiv, Nat.reduceMod, Nat.reduceAdd, Nat.reduceMul, Int.reduceToNat, true_and, and_true, and_self, cP_eq, cP_ne, cP_lt, cP_ge, cP_gt, cP_le, eL_i, eL_l, eL_r, eL_n, Option.toList_none, Option.toList_some, List.nil_append, List.cons_append, kkI, llI, nnI, rrI, jjI, kkJ, llJ, nnJ, rrJ, iiJ, zIIs, zJJs, nEF, nET, and_false, false_and, jmin, jmax, catS_n, catS_i, catS_r, catS_l, Nat.reduceLeDiff, j1eq1, n21, jt0, jt1, Bool.false_eq_true, Classical.not_not, true_or, or_true, false_or, or_false, true_imp_iff, false_imp_iff, not_true_eq_false, not_false_eq_true, jif0, jif1, jifb, ltT, ltF, leT, leF, eqT, eqF, jlt, jle, jeq, jlt0, jle0, jeq0, jge0, jgt0, jinB, jnat, clt, cle, ceq, cgt, cge, lI_add, lI_sub, lI_mul, jadd, jsub, jmul, jneg, jtol, b010, b011, pv_2t, Int.toNat_natCast, Option.some.injEq, exists_eq_left', if_true, if_false, u1, u2, u4]
                  refine vs_ok 3 ?_
                  rw [show ((gRes 176).drop 52).take 3 = [.iload 7, .iload 4, .if_icmp .gt 73] from rfl]
                  simp (disch := omega) only [vs_if_icmp, vs_iload4, vs_iload7, vs_nil, gv_0, gv_1, gv_2, gv_3, pv_0, pv_1, va_rf_s, Nat.reduceDiv, Nat.reduceMod, Nat.reduceAdd, Nat.reduceMul, Int.reduceToNat, true_and, and_true, and_self, cP_eq, cP_ne, cP_lt, cP_ge, cP_gt, cP_le, eL_i, eL_l, eL_r, eL_n, Option.toList_none, Option.toList_some, List.nil_append, List.cons_append, kkI, llI, nnI, rrI, jjI, kkJ, llJ, nnJ, rrJ, iiJ, zIIs, zJJs, nEF, nET, and_false, false_and, jmin, jmax, catS_n, catS_i, catS_r, catS_l, Nat.reduceLeDiff, j1eq1, n21, jt0, jt1, Bool.false_eq_true, Classical.not_not, true_or, or_true, false_or, or_false, true_imp_iff, false_imp_iff, not_true_eq_false, not_false_eq_true, jif0, jif1, jifb, ltT, ltF, leT, leF, eqT, eqF, jlt, jle, jeq, jlt0, jle0, jeq0, jge0, jgt0, jinB, jnat, clt, cle, ceq, cgt, cge, lI_add, lI_sub, lI_mul, jadd, jsub, jmul, jneg, jtol, b010, b011, pv_2t, Int.toNat_natCast, Option.some.injEq, exists_eq_left', if_true, if_false]
                  exact fin 0 _ (lw (m + 1) (by omega)).symm
            exact lp s 0 _ _ _ g0 (by omega) f0 J0
          · refine vs_ok 5 ?_
            rw [show ((gRes 176).drop 16).take 5 = [.astore 3, .aload 3, .getfield 6020, .iconst 1, .if_icmp .lt 31] from rfl]
            simp (disch := omega) only [vs_iconst, vs_if_icmp, vs_getfield, vs_aload3, vs_astore3n, vs_astore3i, vs_astore3r, vs_astore3l, vs_nil, gv_0, gv_1, gv_2, gv_3, pv_0, pv_1, va_rf_s, Nat.reduceDiv, Nat.reduceMod, Nat.reduceAdd, Nat.reduceMul, Int.reduceToNat, true_and, and_true, and_self, cP_eq, cP_ne, cP_lt, cP_ge, cP_gt, cP_le, eL_i, eL_l, eL_r, eL_n, Option.toList_none, Option.toList_some, List.nil_append, List.cons_append, kkI, llI, nnI, rrI, jjI, kkJ, llJ, nnJ, rrJ, iiJ, zIIs, zJJs, nEF, nET, and_false, false_and, jmin, jmax, catS_n, catS_i, catS_r, catS_l, Nat.reduceLeDiff, j1eq1, n21, jt0, jt1, Bool.false_eq_true, Classical.not_not, true_or, or_true, false_or, or_false, true_imp_iff, false_imp_iff, not_true_eq_false, not_false_eq_true, jif0, jif1, jifb, ltT, ltF, leT, leF, eqT, eqF, jlt, jle, jeq, jlt0, jle0, jeq0, jge0, jgt0, jinB, jnat, clt, cle, ceq, cgt, cge, lI_add, lI_sub, lI_mul, jadd, jsub, jmul, jneg, jtol, b010, b011, pv_2t, Int.toNat_natCast, Option.some.injEq, exists_eq_left', if_true, if_false, r1, r2, r3]
            refine vs_ok 5 ?_
            rw [show ((gRes 176).drop 21).take 5 = [.aload 3, .getfield 6041, .jsr_w 1000, .lcmp, .ifCond .gt 31] from rfl]
            simp (disch := omega) only [vs_lcmp, vs_jsr_w, vs_ifCond, vs_getfield, vs_aload3, vs_nil, gv_0, gv_1, gv_2, gv_3, pv_0, pv_1, va_rf_s, Nat.reduceDiv, Nat.reduceMod, Nat.reduceAdd, Nat.reduceMul, Int.reduceToNat, true_and, and_true, and_self, cP_eq, cP_ne, cP_lt, cP_ge, cP_gt, cP_le, eL_i, eL_l, eL_r, eL_n, Option.toList_none, Option.toList_some, List.nil_append, List.cons_append, kkI, llI, nnI, rrI, jjI, kkJ, llJ, nnJ, rrJ, iiJ, zIIs, zJJs, nEF, nET, and_false, false_and, jmin, jmax, catS_n, catS_i, catS_r, catS_l, Nat.reduceLeDiff, j1eq1, n21, jt0, jt1, Bool.false_eq_true, Classical.not_not, true_or, or_true, false_or, or_false, true_imp_iff, false_imp_iff, not_true_eq_false, not_false_eq_true, jif0, jif1, jifb, ltT, ltF, leT, leF, eqT, eqF, jlt, jle, jeq, jlt0, jle0, jeq0, jge0, jgt0, jinB, jnat, clt, cle, ceq, cgt, cge, lI_add, lI_sub, lI_mul, jadd, jsub, jmul, jneg, jtol, b010, b011, pv_2t, Int.toNat_natCast, Option.some.injEq, exists_eq_left', if_true, if_false, r1, r2, r5]
            exact no2 fun z => c2 z.2.2
        · refine vs_ok 5 ?_
          rw [show ((gRes 176).drop 16).take 5 = [.astore 3, .aload 3, .getfield 6020, .iconst 1, .if_icmp .lt 31] from rfl]
          simp (disch := omega) only [vs_iconst, vs_if_icmp, vs_getfield, vs_aload3, vs_astore3n, vs_astore3i, vs_astore3r, vs_astore3l, vs_nil, gv_0, gv_1, gv_2, gv_3, pv_0, pv_1, va_rf_s, Nat.reduceDiv, Nat.reduceMod, Nat.reduceAdd, Nat.reduceMul, Int.reduceToNat, true_and, and_true, and_self, cP_eq, cP_ne, cP_lt, cP_ge, cP_gt, cP_le, eL_i, eL_l, eL_r, eL_n, Option.toList_none, Option.toList_some, List.nil_append, List.cons_append, kkI, llI, nnI, rrI, jjI, kkJ, llJ, nnJ, rrJ, iiJ, zIIs, zJJs, nEF, nET, and_false, false_and, jmin, jmax, catS_n, catS_i, catS_r, catS_l, Nat.reduceLeDiff, j1eq1, n21, jt0, jt1, Bool.false_eq_true, Classical.not_not, true_or, or_true, false_or, or_false, true_imp_iff, false_imp_iff, not_true_eq_false, not_false_eq_true, jif0, jif1, jifb, ltT, ltF, leT, leF, eqT, eqF, jlt, jle, jeq, jlt0, jle0, jeq0, jge0, jgt0, jinB, jnat, clt, cle, ceq, cgt, cge, lI_add, lI_sub, lI_mul, jadd, jsub, jmul, jneg, jtol, b010, b011, pv_2t, Int.toNat_natCast, Option.some.injEq, exists_eq_left', if_true, if_false, r1, r2, r3]
          exact no2 fun z => c1 z.2.1
      · refine vs_ok 3 ?_
        rw [show ((gRes 176).drop 4).take 3 = [.ifCond .eq 10, .iload 2, .ifCond .lt 10] from rfl]
        simp (disch := omega) only [vs_ifCond, vs_iload2, vs_nil, gv_0, gv_1, gv_2, gv_3, pv_0, pv_1, va_rf_s, Nat.reduceDiv, Nat.reduceMod, Nat.reduceAdd, Nat.reduceMul, Int.reduceToNat, true_and, and_true, and_self, cP_eq, cP_ne, cP_lt, cP_ge, cP_gt, cP_le, eL_i, eL_l, eL_r, eL_n, Option.toList_none, Option.toList_some, List.nil_append, List.cons_append, kkI, llI, nnI, rrI, jjI, kkJ, llJ, nnJ, rrJ, iiJ, zIIs, zJJs, nEF, nET, and_false, false_and, jmin, jmax, catS_n, catS_i, catS_r, catS_l, Nat.reduceLeDiff, j1eq1, n21, jt0, jt1, Bool.false_eq_true, Classical.not_not, true_or, or_true, false_or, or_false, true_imp_iff, false_imp_iff, not_true_eq_false, not_false_eq_true, jif0, jif1, jifb, ltT, ltF, leT, leF, eqT, eqF, jlt, jle, jeq, jlt0, jle0, jeq0, jge0, jgt0, jinB, jnat, clt, cle, ceq, cgt, cge, lI_add, lI_sub, lI_mul, jadd, jsub, jmul, jneg, jtol, b010, b011, pv_2t, Int.toNat_natCast, Option.some.injEq, exists_eq_left', if_true, if_false]
        refine vs_ok 3 ?_
        rw [show ((gRes 176).drop 7).take 3 = [.iload 2, .iconst 200, .if_icmp .le 12] from rfl]
        simp (disch := omega) only [vs_iconst, vs_if_icmp, vs_iload2, vs_nil, gv_0, gv_1, gv_2, gv_3, pv_0, pv_1, va_rf_s, Nat.reduceDiv, Nat.reduceMod, Nat.reduceAdd, Nat.reduceMul, Int.reduceToNat, true_and, and_true, and_self, cP_eq, cP_ne, cP_lt, cP_ge, cP_gt, cP_le, eL_i, eL_l, eL_r, eL_n, Option.toList_none, Option.toList_some, List.nil_append, List.cons_append, kkI, llI, nnI, rrI, jjI, kkJ, llJ, nnJ, rrJ, iiJ, zIIs, zJJs, nEF, nET, and_false, false_and, jmin, jmax, catS_n, catS_i, catS_r, catS_l, Nat.reduceLeDiff, j1eq1, n21, jt0, jt1, Bool.false_eq_true, Classical.not_not, true_or, or_true, false_or, or_false, true_imp_iff, false_imp_iff, not_true_eq_false, not_false_eq_true, jif0, jif1, jifb, ltT, ltF, leT, leF, eqT, eqF, jlt, jle, jeq, jlt0, jle0, jeq0, jge0, jgt0, jinB, jnat, clt, cle, ceq, cgt, cge, lI_add, lI_sub, lI_mul, jadd, jsub, jmul, jneg, jtol, b010, b011, pv_2t, Int.toNat_natCast, Option.some.injEq, exists_eq_left', if_true, if_false]
        exact no fun z => cs2 z.2.1.2
    · refine vs_ok 8 ?_
      rw [show ((gRes 176).drop 4).take 8 = [.ifCond .eq 10, .iload 2, .ifCond .lt 10, .iload 2, .iconst 200, .if_icmp .le 12, .jsr_w (-1), .lreturn] from rfl]
      simp (disch := omega) only [vs_iconst, vs_jsr_w, vs_if_icmp, vs_ifCond, vs_lreturn, vs_iload2, vs_nil, gv_0, gv_1, gv_2, gv_3, pv_0, pv_1, va_rf_s, Nat.reduceDiv, Nat.reduceMod, Nat.reduceAdd, Nat.reduceMul, Int.reduceToNat, true_and, and_true, and_self, cP_eq, cP_ne, cP_lt, cP_ge, cP_gt, cP_le, eL_i, eL_l, eL_r, eL_n, Option.toList_none, Option.toList_some, List.nil_append, List.cons_append, kkI, llI, nnI, rrI, jjI, kkJ, llJ, nnJ, rrJ, iiJ, zIIs, zJJs, nEF, nET, and_false, false_and, jmin, jmax, catS_n, catS_i, catS_r, catS_l, Nat.reduceLeDiff, j1eq1, n21, jt0, jt1, Bool.false_eq_true, Classical.not_not, true_or, or_true, false_or, or_false, true_imp_iff, false_imp_iff, not_true_eq_false, not_false_eq_true, jif0, jif1, jifb, ltT, ltF, leT, leF, eqT, eqF, jlt, jle, jeq, jlt0, jle0, jeq0, jge0, jgt0, jinB, jnat, clt, cle, ceq, cgt, cge, lI_add, lI_sub, lI_mul, jadd, jsub, jmul, jneg, jtol, b010, b011, pv_2t, Int.toNat_natCast, Option.some.injEq, exists_eq_left', if_true, if_false, show gRc 176 = 3 from rfl]
      exact no fun z => cs z.2.1.1
  · rw [if_neg ck]
    refine vs_ok 1 ?_
    rw [show ((gRes 176).drop 4).take 1 = [.ifCond .eq 10] from rfl]
    simp (disch := omega) only [vs_ifCond, vs_nil, gv_0, gv_1, gv_2, gv_3, pv_0, pv_1, va_rf_s, Nat.reduceDiv, Nat.reduceMod, Nat.reduceAdd, Nat.reduceMul, Int.reduceToNat, true_and, and_true, and_self, cP_eq, cP_ne, cP_lt, cP_ge, cP_gt, cP_le, eL_i, eL_l, eL_r, eL_n, Option.toList_none, Option.toList_some, List.nil_append, List.cons_append, kkI, llI, nnI, rrI, jjI, kkJ, llJ, nnJ, rrJ, iiJ, zIIs, zJJs, nEF, nET, and_false, false_and, jmin, jmax, catS_n, catS_i, catS_r, catS_l, Nat.reduceLeDiff, j1eq1, n21, jt0, jt1, Bool.false_eq_true, Classical.not_not, true_or, or_true, false_or, or_false, true_imp_iff, false_imp_iff, not_true_eq_false, not_false_eq_true, jif0, jif1, jifb, ltT, ltF, leT, leF, eqT, eqF, jlt, jle, jeq, jlt0, jle0, jeq0, jge0, jgt0, jinB, jnat, clt, cle, ceq, cgt, cge, lI_add, lI_sub, lI_mul, jadd, jsub, jmul, jneg, jtol, b010, b011, pv_2t, Int.toNat_natCast, Option.some.injEq, exists_eq_left', if_true, if_false]
    exact no fun z => ck z.1
theorem t_apart {d : Nat} {h : Hp} {x t : Nat} {nm a b : Int} {F Wd : Nat → Int} {V : Nat → RowVal} {Q : Nat → Option Value → Hp → Prop} (N : zK h x = 11 ∧ x < zN h) (h2 : zR h x 2 = some t) (hb : isTb h t nm F Wd) (hv : ∀ k, k < 12 → rowP h (t + 4 + 2 * k) 200 (V k)) (hg : ∀ k : Nat, (k : Int) < nm → gV (V k)) (ha : i32 a) (hbb : i32 b)
    (hq : Q 0 (some (.long (lI (if (0 ≤ a ∧ a < nm) ∧ 0 ≤ b ∧ b < nm then faV (V a.toNat).2.2.2 (V b.toNat).2.2.2 (V a.toNat).2.2.1 (V b.toNat).2.2.1 else -1)))) h) : PR (d + 2) m_D_apart [.ref x, .int (iI a), .int (iI b)] h Q := by
  have b1 := hb.1
  have b2 := hb.2.1
  have b3 := hb.2.2.2.2.2
  show PW (d + 2) 177 0 [some (.ref x), some (.int (iI a)), some (.int (iI b))] [] h Q
  refine vs_ok 3 ?_
  rw [show ((gRes 177).drop 0).take 3 = [.aload 0, .getfield 11022, .iload 1] from rfl]
  simp (disch := omega) only [vs_getfield, vs_aload0, vs_iload1, vs_nil, gv_0, gv_1, gv_2, gv_3, pv_0, pv_1, va_rf_s, Nat.reduceDiv, Nat.reduceMod, Nat.reduceAdd, Nat.reduceMul, Int.reduceToNat, true_and, and_true, and_self, cP_eq, cP_ne, cP_lt, cP_ge, cP_gt, cP_le, eL_i, eL_l, eL_r, eL_n, Option.toList_none, Option.toList_some, List.nil_append, List.cons_append, kkI, llI, nnI, rrI, jjI, kkJ, llJ, nnJ, rrJ, iiJ, zIIs, zJJs, nEF, nET, and_false, false_and, jmin, jmax, catS_n, catS_i, catS_r, catS_l, Nat.reduceLeDiff, j1eq1, n21, jt0, jt1, Bool.false_eq_true, Classical.not_not, true_or, or_true, false_or, or_false, true_imp_iff, false_imp_iff, not_true_eq_false, not_false_eq_true, jif0, jif1, jifb, ltT, ltF, leT, leF, eqT, eqF, jlt, jle, jeq, jlt0, jle0, jeq0, jge0, jgt0, jinB, jnat, clt, cle, ceq, cgt, cge, lI_add, lI_sub, lI_mul, jadd, jsub, jmul, jneg, jtol, b010, b011, pv_2t, Int.toNat_natCast, Option.some.injEq, exists_eq_left', if_true, if_false, N, h2]
  refine PW.iv rfl rfl rfl b1 (by omega) (le_b rfl) (le_b rfl) ?_
  refine t_hasI hb ha ⟨rfl, ⟨rfl, rfl⟩, ?_⟩
  by_cases ca : 0 ≤ a ∧ a < nm
  · rw [if_pos ca]
    refine vs_ok 4 ?_
    rw [show ((gRes 177).drop 4).take 4 = [.ifCond .eq 20, .aload 0, .getfield 11022, .iload 2] from rfl]
    simp (disch := omega) only [vs_ifCond, vs_getfield, vs_aload0, vs_iload2, vs_nil, gv_0, gv_1, gv_2, gv_3, pv_0, pv_1, va_rf_s, Nat.reduceDiv, Nat.reduceMod, Nat.reduceAdd, Nat.reduceMul, Int.reduceToNat, true_and, and_true, and_self, cP_eq, cP_ne, cP_lt, cP_ge, cP_gt, cP_le, eL_i, eL_l, eL_r, eL_n, Option.toList_none, Option.toList_some, List.nil_append, List.cons_append, kkI, llI, nnI, rrI, jjI, kkJ, llJ, nnJ, rrJ, iiJ, zIIs, zJJs, nEF, nET, and_false, false_and, jmin, jmax, catS_n, catS_i, catS_r, catS_l, Nat.reduceLeDiff, j1eq1, n21, jt0, jt1, Bool.false_eq_true, Classical.not_not, true_or, or_true, false_or, or_false, true_imp_iff, false_imp_iff, not_true_eq_false, not_false_eq_true, jif0, jif1, jifb, ltT, ltF, leT, leF, eqT, eqF, jlt, jle, jeq, jlt0, jle0, jeq0, jge0, jgt0, jinB, jnat, clt, cle, ceq, cgt, cge, lI_add, lI_sub, lI_mul, jadd, jsub, jmul, jneg, jtol, b010, b011, pv_2t, Int.toNat_natCast, Option.some.injEq, exists_eq_left', if_true, if_false, N, h2]
    refine PW.iv rfl rfl rfl b1 (by omega) (le_b rfl) (le_b rfl) ?_
    refine t_hasI hb hbb ⟨rfl, ⟨rfl, rfl⟩, ?_⟩
    by_cases cb : 0 ≤ b ∧ b < nm
    · rw [if_pos cb]
      rw [if_pos ⟨ca, cb⟩] at hq
      have ga := hg a.toNat (by omega)
      have gb := hg b.toNat (by omega)
      have Ra := hv a.toNat (by omega)
      have Rb := hv b.toNat (by omega)
      refine vs_ok 4 ?_
      rw [show ((gRes 177).drop 9).take 4 = [.ifCond .eq 20, .aload 0, .getfield 11022, .iload 1] from rfl]
      simp (disch := omega) only [vs_ifCond, vs_getfield, vs_aload0, vs_iload1, vs_nil, gv_0, gv_1, gv_2, gv_3, pv_0, pv_1, va_rf_s, Nat.reduceDiv, Nat.reduceMod, Nat.reduceAdd, Nat.reduceMul, Int.reduceToNat, true_and, and_true, and_self, cP_eq, cP_ne, cP_lt, cP_ge, cP_gt, cP_le, eL_i, eL_l, eL_r, eL_n, Option.toList_none, Option.toList_some, List.nil_append, List.cons_append, kkI, llI, nnI, rrI, jjI, kkJ, llJ, nnJ, rrJ, iiJ, zIIs, zJJs, nEF, nET, and_false, false_and, jmin, jmax, catS_n, catS_i, catS_r, catS_l, Nat.reduceLeDiff, j1eq1, n21, jt0, jt1, Bool.false_eq_true, Classical.not_not, true_or, or_true, false_or, or_false, true_imp_iff, false_imp_iff, not_true_eq_false, not_false_eq_true, jif0, jif1, jifb, ltT, ltF, leT, leF, eqT, eqF, jlt, jle, jeq, jlt0, jle0, jeq0, jge0, jgt0, jinB, jnat, clt, cle, ceq, cgt, cge, lI_add, lI_sub, lI_mul, jadd, jsub, jmul, jneg, jtol, b010, b011, pv_2t, Int.toNat_natCast, Option.some.injEq, exists_eq_left', if_true, if_false, N, h2]
      refine PW.iv rfl rfl rfl b1 (by omega) (le_b rfl) (le_b rfl) ?_
      refine t_rowI hb ha ca ⟨rfl, ⟨rfl, rok (by omega)⟩, ?_⟩
      refine vs_ok 3 ?_
      rw [show ((gRes 177).drop 14).take 3 = [.aload 0, .getfield 11022, .iload 2] from rfl]
      simp (disch := omega) only [vs_getfield, vs_aload0, vs_iload2, vs_nil, gv_0, gv_1, gv_2, gv_3, pv_0, pv_1, va_rf_s, Nat.reduceDiv, Nat.reduceMod, Nat.reduceAdd, Nat.reduceMul, Int.reduceToNat, true_and, and_true, and_self, cP_eq, cP_ne, cP_lt, cP_ge, cP_gt, cP_le, eL_i, eL_l, eL_r, eL_n, Option.toList_none, Option.toList_some, List.nil_append, List.cons_append, kkI, llI, nnI, rrI, jjI, kkJ, llJ, nnJ, rrJ, iiJ, zIIs, zJJs, nEF, nET, and_false, false_and, jmin, jmax, catS_n, catS_i, catS_r, catS_l, Nat.reduceLeDiff, j1eq1, n21, jt0, jt1, Bool.false_eq_true, Classical.not_not, true_or, or_true, false_or, or_false, true_imp_iff, false_imp_iff, not_true_eq_false, not_false_eq_true, jif0, jif1, jifb, ltT, ltF, leT, leF, eqT, eqF, jlt, jle, jeq, jlt0, jle0, jeq0, jge0, jgt0, jinB, jnat, clt, cle, ceq, cgt, cge, lI_add, lI_sub, lI_mul, jadd, jsub, jmul, jneg, jtol, b010, b011, pv_2t, Int.toNat_natCast, Option.some.injEq, exists_eq_left', if_true, if_false, N, h2]
      refine PW.iv rfl rfl rfl b1 (by omega) (le_b rfl) (le_b rfl) ?_
      refine t_rowI hb hbb cb ⟨rfl, ⟨rfl, rok (by omega)⟩, ?_⟩
      have u : ∀ n, -9223372036854775808 < (V a.toNat).2.2.2 n * (V b.toNat).2.2.1 - (V b.toNat).2.2.2 n * (V a.toNat).2.2.1 ∧ (V a.toNat).2.2.2 n * (V b.toNat).2.2.1 - (V b.toNat).2.2.2 n * (V a.toNat).2.2.1 < 9223372036854775808 := fun n => by
        have a6 := ga.2.2.2.2.2
        have b6 := gb.2.2.2.2.2
        have p1 := Int.mul_nonneg (ga.2.1 n) (show 0 ≤ (V b.toNat).2.2.1 by omega)
        have p2 := Int.mul_nonneg (gb.2.1 n) (show 0 ≤ (V a.toNat).2.2.1 by omega)
        have p3 := Int.mul_le_mul (ga.le n) b6.2 (show 0 ≤ (V b.toNat).2.2.1 by omega) (by omega)
        have p4 := Int.mul_le_mul (gb.le n) a6.2 (show 0 ≤ (V a.toNat).2.2.1 by omega) (by omega)
        omega
      refine PW.iv rfl rfl rfl Ra.1.1 Ra.1.2.1 (le_b rfl) (le_b rfl) ?_
      refine t_farFrom Ra Rb u ⟨rfl, ⟨rfl, rfl⟩, ?_⟩
      refine vs_ok 1 ?_
      rw [show ((gRes 177).drop 19).take 1 = [.goto 21] from rfl]
      simp (disch := omega) only [vs_goto, vs_nil, gv_0, gv_1, gv_2, gv_3, pv_0, pv_1, va_rf_s, Nat.reduceDiv, Nat.reduceMod, Nat.reduceAdd, Nat.reduceMul, Int.reduceToNat, true_and, and_true, and_self, cP_eq, cP_ne, cP_lt, cP_ge, cP_gt, cP_le, eL_i, eL_l, eL_r, eL_n, Option.toList_none, Option.toList_some, List.nil_append, List.cons_append, kkI, llI, nnI, rrI, jjI, kkJ, llJ, nnJ, rrJ, iiJ, zIIs, zJJs, nEF, nET, and_false, false_and, jmin, jmax, catS_n, catS_i, catS_r, catS_l, Nat.reduceLeDiff, j1eq1, n21, jt0, jt1, Bool.false_eq_true, Classical.not_not, true_or, or_true, false_or, or_false, true_imp_iff, false_imp_iff, not_true_eq_false, not_false_eq_true, jif0, jif1, jifb, ltT, ltF, leT, leF, eqT, eqF, jlt, jle, jeq, jlt0, jle0, jeq0, jge0, jgt0, jinB, jnat, clt, cle, ceq, cgt, cge, lI_add, lI_sub, lI_mul, jadd, jsub, jmul, jneg, jtol, b010, b011, pv_2t, Int.toNat_natCast, Option.some.injEq, exists_eq_left', if_true, if_false]
      refine vs_ok 1 ?_
      rw [show ((gRes 177).drop 21).take 1 = [.lreturn] from rfl]
      simp (disch := omega) only [vs_lreturn, vs_nil, gv_0, gv_1, gv_2, gv_3, pv_0, pv_1, va_rf_s, Nat.reduceDiv, Nat.reduceMod, Nat.reduceAdd, Nat.reduceMul, Int.reduceToNat, true_and, and_true, and_self, cP_eq, cP_ne, cP_lt, cP_ge, cP_gt, cP_le, eL_i, eL_l, eL_r, eL_n, Option.toList_none, Option.toList_some, List.nil_append, List.cons_append, kkI, llI, nnI, rrI, jjI, kkJ, llJ, nnJ, rrJ, iiJ, zIIs, zJJs, nEF, nET, and_false, false_and, jmin, jmax, catS_n, catS_i, catS_r, catS_l, Nat.reduceLeDiff, j1eq1, n21, jt0, jt1, Bool.false_eq_true, Classical.not_not, true_or, or_true, false_or, or_false, true_imp_iff, false_imp_iff, not_true_eq_false, not_false_eq_true, jif0, jif1, jifb, ltT, ltF, leT, leF, eqT, eqF, jlt, jle, jeq, jlt0, jle0, jeq0, jge0, jgt0, jinB, jnat, clt, cle, ceq, cgt, cge, lI_add, lI_sub, lI_mul, jadd, jsub, jmul, jneg, jtol, b010, b011, pv_2t, Int.toNat_natCast, Option.some.injEq, exists_eq_left', if_true, if_false, show gRc 177 = 3 from rfl]
      exact hq
    · rw [if_neg cb]
      rw [if_neg fun z => cb z.2] at hq
      refine vs_ok 1 ?_
      rw [show ((gRes 177).drop 9).take 1 = [.ifCond .eq 20] from rfl]
      simp (disch := omega) only [vs_ifCond, vs_nil, gv_0, gv_1, gv_2, gv_3, pv_0, pv_1, va_rf_s, Nat.reduceDiv, Nat.reduceMod, Nat.reduceAdd, Nat.reduceMul, Int.reduceToNat, true_and, and_true, and_self, cP_eq, cP_ne, cP_lt, cP_ge, cP_gt, cP_le, eL_i, eL_l, eL_r, eL_n, Option.toList_none, Option.toList_some, List.nil_append, List.cons_append, kkI, llI, nnI, rrI, jjI, kkJ, llJ, nnJ, rrJ, iiJ, zIIs, zJJs, nEF, nET, and_false, false_and, jmin, jmax, catS_n, catS_i, catS_r, catS_l, Nat.reduceLeDiff, j1eq1, n21, jt0, jt1, Bool.false_eq_true, Classical.not_not, true_or, or_true, false_or, or_false, true_imp_iff, false_imp_iff, not_true_eq_false, not_false_eq_true, jif0, jif1, jifb, ltT, ltF, leT, leF, eqT, eqF, jlt, jle, jeq, jlt0, jle0, jeq0, jge0, jgt0, jinB, jnat, clt, cle, ceq, cgt, cge, lI_add, lI_sub, lI_mul, jadd, jsub, jmul, jneg, jtol, b010, b011, pv_2t, Int.toNat_natCast, Option.some.injEq, exists_eq_left', if_true, if_false]
      refine vs_ok 2 ?_
      rw [show ((gRes 177).drop 20).take 2 = [.jsr_w (-1), .lreturn] from rfl]
      simp (disch := omega) only [vs_jsr_w, vs_lreturn, vs_nil, gv_0, gv_1, gv_2, gv_3, pv_0, pv_1, va_rf_s, Nat.reduceDiv, Nat.reduceMod, Nat.reduceAdd, Nat.reduceMul, Int.reduceToNat, true_and, and_true, and_self, cP_eq, cP_ne, cP_lt, cP_ge, cP_gt, cP_le, eL_i, eL_l, eL_r, eL_n, Option.toList_none, Option.toList_some, List.nil_append, List.cons_append, kkI, llI, nnI, rrI, jjI, kkJ, llJ, nnJ, rrJ, iiJ, zIIs, zJJs, nEF, nET, and_false, false_and, jmin, jmax, catS_n, catS_i, catS_r, catS_l, Nat.reduceLeDiff, j1eq1, n21, jt0, jt1, Bool.false_eq_true, Classical.not_not, true_or, or_true, false_or, or_false, true_imp_iff, false_imp_iff, not_true_eq_false, not_false_eq_true, jif0, jif1, jifb, ltT, ltF, leT, leF, eqT, eqF, jlt, jle, jeq, jlt0, jle0, jeq0, jge0, jgt0, jinB, jnat, clt, cle, ceq, cgt, cge, lI_add, lI_sub, lI_mul, jadd, jsub, jmul, jneg, jtol, b010, b011, pv_2t, Int.toNat_natCast, Option.some.injEq, exists_eq_left', if_true, if_false, show gRc 177 = 3 from rfl]
      exact hq
  · rw [if_neg ca]
    rw [if_neg fun z => ca z.1] at hq
    refine vs_ok 1 ?_
    rw [show ((gRes 177).drop 4).take 1 = [.ifCond .eq 20] from rfl]
    simp (disch := omega) only [vs_ifCond, vs_nil, gv_0, gv_1, gv_2, gv_3, pv_0, pv_1, va_rf_s, Nat.reduceDiv, Nat.reduceMod, Nat.reduceAdd, Nat.reduceMul, Int.reduceToNat, true_and, and_true, and_self, cP_eq, cP_ne, cP_lt, cP_ge, cP_gt, cP_le, eL_i, eL_l, eL_r, eL_n, Option.toList_none, Option.toList_some, List.nil_append, List.cons_append, kkI, llI, nnI, rrI, jjI, kkJ, llJ, nnJ, rrJ, iiJ, zIIs, zJJs, nEF, nET, and_false, false_and, jmin, jmax, catS_n, catS_i, catS_r, catS_l, Nat.reduceLeDiff, j1eq1, n21, jt0, jt1, Bool.false_eq_true, Classical.not_not, true_or, or_true, false_or, or_false, true_imp_iff, false_imp_iff, not_true_eq_false, not_false_eq_true, jif0, jif1, jifb, ltT, ltF, leT, leF, eqT, eqF, jlt, jle, jeq, jlt0, jle0, jeq0, jge0, jgt0, jinB, jnat, clt, cle, ceq, cgt, cge, lI_add, lI_sub, lI_mul, jadd, jsub, jmul, jneg, jtol, b010, b011, pv_2t, Int.toNat_natCast, Option.some.injEq, exists_eq_left', if_true, if_false]
    refine vs_ok 2 ?_
    rw [show ((gRes 177).drop 20).take 2 = [.jsr_w (-1), .lreturn] from rfl]
    simp (disch := omega) only [vs_jsr_w, vs_lreturn, vs_nil, gv_0, gv_1, gv_2, gv_3, pv_0, pv_1, va_rf_s, Nat.reduceDiv, Nat.reduceMod, Nat.reduceAdd, Nat.reduceMul, Int.reduceToNat, true_and, and_true, and_self, cP_eq, cP_ne, cP_lt, cP_ge, cP_gt, cP_le, eL_i, eL_l, eL_r, eL_n, Option.toList_none, Option.toList_some, List.nil_append, List.cons_append, kkI, llI, nnI, rrI, jjI, kkJ, llJ, nnJ, rrJ, iiJ, zIIs, zJJs, nEF, nET, and_false, false_and, jmin, jmax, catS_n, catS_i, catS_r, catS_l, Nat.reduceLeDiff, j1eq1, n21, jt0, jt1, Bool.false_eq_true, Classical.not_not, true_or, or_true, false_or, or_false, true_imp_iff, false_imp_iff, not_true_eq_false, not_false_eq_true, jif0, jif1, jifb, ltT, ltF, leT, leF, eqT, eqF, jlt, jle, jeq, jlt0, jle0, jeq0, jge0, jgt0, jinB, jnat, clt, cle, ceq, cgt, cge, lI_add, lI_sub, lI_mul, jadd, jsub, jmul, jneg, jtol, b010, b011, pv_2t, Int.toNat_natCast, Option.some.injEq, exists_eq_left', if_true, if_false, show gRc 177 = 3 from rfl]
    exact hq
abbrev shP (v w : RowVal) : Prop := v.2.1 + (w.1 - v.1) = w.2.1 ∧ ∀ n, v.1 ≤ n → n ≤ v.2.1 → v.2.2.2 n = w.2.2.2 (n + (w.1 - v.1))
theorem t_shift {d : Nat} {h : Hp} {x t : Nat} {nm a b : Int} {F Wd : Nat → Int} {V : Nat → RowVal} {Q : Nat → Option Value → Hp → Prop} (N : zK h x = 11 ∧ x < zN h) (h2 : zR h x 2 = some t) (hb : isTb h t nm F Wd) (hv : ∀ k, k < 12 → rowP h (t + 4 + 2 * k) 200 (V k)) (hg : ∀ k : Nat, (k : Int) < nm → gV (V k)) (ha : i32 a) (hbb : i32 b)
    (h0 : ¬ ((0 ≤ a ∧ a < nm) ∧ 0 ≤ b ∧ b < nm) → Q 1 none (zThr h))
    (h1 : (0 ≤ a ∧ a < nm) ∧ 0 ≤ b ∧ b < nm → shP (V a.toNat) (V b.toNat) → Q 0 (some (.int (iI ((V b.toNat).1 - (V a.toNat).1)))) h)
    (h3 : (0 ≤ a ∧ a < nm) ∧ 0 ≤ b ∧ b < nm → ¬ shP (V a.toNat) (V b.toNat) → Q 0 (some (.int (iI 1000))) h) : PR (d + 2) m_D_shift [.ref x, .int (iI a), .int (iI b)] h Q := by
  have b1 := hb.1
  have b2 := hb.2.1
  have b3 := hb.2.2.2.2.2
  show PW (d + 2) 178 0 [some (.ref x), some (.int (iI a)), some (.int (iI b)), none, none, none] [] h Q
  refine vs_ok 3 ?_
  rw [show ((gRes 178).drop 0).take 3 = [.aload 0, .getfield 11022, .iload 1] from rfl]
  simp (disch := omega) only [vs_getfield, vs_aload0, vs_iload1, vs_nil, gv_0, gv_1, gv_2, gv_3, pv_0, pv_1, va_rf_s, Nat.reduceDiv, Nat.reduceMod, Nat.reduceAdd, Nat.reduceMul, Int.reduceToNat, true_and, and_true, and_self, cP_eq, cP_ne, cP_lt, cP_ge, cP_gt, cP_le, eL_i, eL_l, eL_r, eL_n, Option.toList_none, Option.toList_some, List.nil_append, List.cons_append, kkI, llI, nnI, rrI, jjI, kkJ, llJ, nnJ, rrJ, iiJ, zIIs, zJJs, nEF, nET, and_false, false_and, jmin, jmax, catS_n, catS_i, catS_r, catS_l, Nat.reduceLeDiff, j1eq1, n21, jt0, jt1, Bool.false_eq_true, Classical.not_not, true_or, or_true, false_or, or_false, true_imp_iff, false_imp_iff, not_true_eq_false, not_false_eq_true, jif0, jif1, jifb, ltT, ltF, leT, leF, eqT, eqF, jlt, jle, jeq, jlt0, jle0, jeq0, jge0, jgt0, jinB, jnat, clt, cle, ceq, cgt, cge, lI_add, lI_sub, lI_mul, jadd, jsub, jmul, jneg, jtol, b010, b011, pv_2t, Int.toNat_natCast, Option.some.injEq, exists_eq_left', if_true, if_false, N, h2]
  refine PW.iv rfl rfl rfl b1 (by omega) (le_b rfl) (le_b rfl) ?_
  refine t_hasI hb ha ⟨rfl, ⟨rfl, rfl⟩, ?_⟩
  by_cases ca : 0 ≤ a ∧ a < nm
  · rw [if_pos ca]
    refine vs_ok 4 ?_
    rw [show ((gRes 178).drop 4).take 4 = [.ifCond .eq 10, .aload 0, .getfield 11022, .iload 2] from rfl]
    simp (disch := omega) only [vs_ifCond, vs_getfield, vs_aload0, vs_iload2, vs_nil, gv_0, gv_1, gv_2, gv_3, pv_0, pv_1, va_rf_s, Nat.reduceDiv, Nat.reduceMod, Nat.reduceAdd, Nat.reduceMul, Int.reduceToNat, true_and, and_true, and_self, cP_eq, cP_ne, cP_lt, cP_ge, cP_gt, cP_le, eL_i, eL_l, eL_r, eL_n, Option.toList_none, Option.toList_some, List.nil_append, List.cons_append, kkI, llI, nnI, rrI, jjI, kkJ, llJ, nnJ, rrJ, iiJ, zIIs, zJJs, nEF, nET, and_false, false_and, jmin, jmax, catS_n, catS_i, catS_r, catS_l, Nat.reduceLeDiff, j1eq1, n21, jt0, jt1, Bool.false_eq_true, Classical.not_not, true_or, or_true, false_or, or_false, true_imp_iff, false_imp_iff, not_true_eq_false, not_false_eq_true, jif0, jif1, jifb, ltT, ltF, leT, leF, eqT, eqF, jlt, jle, jeq, jlt0, jle0, jeq0, jge0, jgt0, jinB, jnat, clt, cle, ceq, cgt, cge, lI_add, lI_sub, lI_mul, jadd, jsub, jmul, jneg, jtol, b010, b011, pv_2t, Int.toNat_natCast, Option.some.injEq, exists_eq_left', if_true, if_false, N, h2]
    refine PW.iv rfl rfl rfl b1 (by omega) (le_b rfl) (le_b rfl) ?_
    refine t_hasI hb hbb ⟨rfl, ⟨rfl, rfl⟩, ?_⟩
    by_cases cb : 0 ≤ b ∧ b < nm
    · rw [if_pos cb]
      have h1 := h1 ⟨ca, cb⟩
      have h3 := h3 ⟨ca, cb⟩
      have ga := hg a.toNat (by omega)
      have gb := hg b.toNat (by omega)
      have Ra := hv a.toNat (by omega)
      have Rb := hv b.toNat (by omega)
      refine vs_ok 1 ?_
      rw [show ((gRes 178).drop 9).take 1 = [.ifCond .ne 14] from rfl]
      simp (disch := omega) only [vs_ifCond, vs_nil, gv_0, gv_1, gv_2, gv_3, pv_0, pv_1, va_rf_s, Nat.reduceDiv, Nat.reduceMod, Nat.reduceAdd, Nat.reduceMul, Int.reduceToNat, true_and, and_true, and_self, cP_eq, cP_ne, cP_lt, cP_ge, cP_gt, cP_le, eL_i, eL_l, eL_r, eL_n, Option.toList_none, Option.toList_some, List.nil_append, List.cons_append, kkI, llI, nnI, rrI, jjI, kkJ, llJ, nnJ, rrJ, iiJ, zIIs, zJJs, nEF, nET, and_false, false_and, jmin, jmax, catS_n, catS_i, catS_r, catS_l, Nat.reduceLeDiff, j1eq1, n21, jt0, jt1, Bool.false_eq_true, Classical.not_not, true_or, or_true, false_or, or_false, true_imp_iff, false_imp_iff, not_true_eq_false, not_false_eq_true, jif0, jif1, jifb, ltT, ltF, leT, leF, eqT, eqF, jlt, jle, jeq, jlt0, jle0, jeq0, jge0, jgt0, jinB, jnat, clt, cle, ceq, cgt, cge, lI_add, lI_sub, lI_mul, jadd, jsub, jmul, jneg, jtol, b010, b011, pv_2t, Int.toNat_natCast, Option.some.injEq, exists_eq_left', if_true, if_false]
      refine vs_ok 3 ?_
      rw [show ((gRes 178).drop 14).take 3 = [.aload 0, .getfield 11022, .iload 1] from rfl]
      simp (disch := omega) only [vs_getfield, vs_aload0, vs_iload1, vs_nil, gv_0, gv_1, gv_2, gv_3, pv_0, pv_1, va_rf_s, Nat.reduceDiv, Nat.reduceMod, Nat.reduceAdd, Nat.reduceMul, Int.reduceToNat, true_and, and_true, and_self, cP_eq, cP_ne, cP_lt, cP_ge, cP_gt, cP_le, eL_i, eL_l, eL_r, eL_n, Option.toList_none, Option.toList_some, List.nil_append, List.cons_append, kkI, llI, nnI, rrI, jjI, kkJ, llJ, nnJ, rrJ, iiJ, zIIs, zJJs, nEF, nET, and_false, false_and, jmin, jmax, catS_n, catS_i, catS_r, catS_l, Nat.reduceLeDiff, j1eq1, n21, jt0, jt1, Bool.false_eq_true, Classical.not_not, true_or, or_true, false_or, or_false, true_imp_iff, false_imp_iff, not_true_eq_false, not_false_eq_true, jif0, jif1, jifb, ltT, ltF, leT, leF, eqT, eqF, jlt, jle, jeq, jlt0, jle0, jeq0, jge0, jgt0, jinB, jnat, clt, cle, ceq, cgt, cge, lI_add, lI_sub, lI_mul, jadd, jsub, jmul, jneg, jtol, b010, b011, pv_2t, Int.toNat_natCast, Option.some.injEq, exists_eq_left', if_true, if_false, N, h2]
      refine PW.iv rfl rfl rfl b1 (by omega) (le_b rfl) (le_b rfl) ?_
      refine t_rowI hb ha ca ⟨rfl, ⟨rfl, rok (by omega)⟩, ?_⟩
      refine vs_ok 4 ?_
      rw [show ((gRes 178).drop 18).take 4 = [.astore 3, .aload 0, .getfield 11022, .iload 2] from rfl]
      simp (disch := omega) only [vs_getfield, vs_aload0, vs_iload2, vs_astore3n, vs_astore3i, vs_astore3r, vs_astore3l, vs_nil, gv_0, gv_1, gv_2, gv_3, pv_0, pv_1, va_rf_s, Nat.reduceDiv, Nat.reduceMod, Nat.reduceAdd, Nat.reduceMul, Int.reduceToNat, true_and, and_true, and_self, cP_eq, cP_ne, cP_lt, cP_ge, cP_gt, cP_le, eL_i, eL_l, eL_r, eL_n, Option.toList_none, Option.toList_some, List.nil_append, List.cons_append, kkI, llI, nnI, rrI, jjI, kkJ, llJ, nnJ, rrJ, iiJ, zIIs, zJJs, nEF, nET, and_false, false_and, jmin, jmax, catS_n, catS_i, catS_r, catS_l, Nat.reduceLeDiff, j1eq1, n21, jt0, jt1, Bool.false_eq_true, Classical.not_not, true_or, or_true, false_or, or_false, true_imp_iff, false_imp_iff, not_true_eq_false, not_false_eq_true, jif0, jif1, jifb, ltT, ltF, leT, leF, eqT, eqF, jlt, jle, jeq, jlt0, jle0, jeq0, jge0, jgt0, jinB, jnat, clt, cle, ceq, cgt, cge, lI_add, lI_sub, lI_mul, jadd, jsub, jmul, jneg, jtol, b010, b011, pv_2t, Int.toNat_natCast, Option.some.injEq, exists_eq_left', if_true, if_false, N, h2]
      refine PW.iv rfl rfl rfl b1 (by omega) (le_b rfl) (le_b rfl) ?_
      refine t_rowI hb hbb cb ⟨rfl, ⟨rfl, rok (by omega)⟩, ?_⟩
      have x1 := Ra.1.1
      have x2 := Ra.1.2.1
      have x3 := Ra.2.1
      have y1 := Rb.1.1
      have y2 := Rb.1.2.1
      have y3 := Rb.2.1
      have g1 := ga.1
      have g2 := gb.1
      have ia : ∀ m, i64 ((V a.toNat).2.2.2 m) := fun m => by have := ga.2.1 m; have := ga.le m; constructor <;> omega
      have ib : ∀ m, i64 ((V b.toNat).2.2.2 m) := fun m => by have := gb.2.1 m; have := gb.le m; constructor <;> omega
      generalize t + 4 + 2 * a.toNat = ra at *
      generalize t + 4 + 2 * b.toNat = rb at *
      generalize V a.toNat = va at *
      generalize V b.toNat = vb at *
      refine vs_ok 10 ?_
      rw [show ((gRes 178).drop 23).take 10 = [.astore 4, .aload 4, .getfield 6020, .aload 3, .getfield 6020, .isub, .istore 5, .aload 3, .aload 4, .iload 5] from rfl]
      simp (disch := omega) only [vs_isub, vs_getfield, vs_aload3, vs_aload4, vs_astore4n, vs_astore4i, vs_astore4r, vs_astore4l, vs_iload5, vs_istore5n, vs_istore5i, vs_istore5r, vs_istore5l, vs_nil, gv_0, gv_1, gv_2, gv_3, pv_0, pv_1, va_rf_s, Nat.reduceDiv, Nat.reduceMod, Nat.reduceAdd, Nat.reduceMul, Int.reduceToNat, true_and, and_true, and_self, cP_eq, cP_ne, cP_lt, cP_ge, cP_gt, cP_le, eL_i, eL_l, eL_r, eL_n, Option.toList_none, Option.toList_some, List.nil_append, List.cons_append, kkI, llI, nnI, rrI, jjI, kkJ, llJ, nnJ, rrJ, iiJ, zIIs, zJJs, nEF, nET, and_false, false_and, jmin, jmax, catS_n, catS_i, catS_r, catS_l, Nat.reduceLeDiff, j1eq1, n21, jt0, jt1, Bool.false_eq_true, Classical.not_not, true_or, or_true, false_or, or_false, true_imp_iff, false_imp_iff, not_true_eq_false, not_false_eq_true, jif0, jif1, jifb, ltT, ltF, leT, leF, eqT, eqF, jlt, jle, jeq, jlt0, jle0, jeq0, jge0, jgt0, jinB, jnat, clt, cle, ceq, cgt, cge, lI_add, lI_sub, lI_mul, jadd, jsub, jmul, jneg, jtol, b010, b011, pv_2t, Int.toNat_natCast, Option.some.injEq, exists_eq_left', if_true, if_false, x1, x2, x3, y1, y2, y3]
      refine PW.iv rfl rfl rfl x1 x2 (le_b rfl) (le_b rfl) ?_
      refine t_isMoved (by0 := vb.1 - va.1) Ra Rb (by omega) ia ib (fun c => ⟨rfl, ⟨rfl, rfl⟩, ?_⟩) fun c => ⟨rfl, ⟨rfl, rfl⟩, ?_⟩
      · refine vs_ok 1 ?_
        rw [show ((gRes 178).drop 34).take 1 = [.ifCond .eq 37] from rfl]
        simp (disch := omega) only [vs_ifCond, vs_nil, gv_0, gv_1, gv_2, gv_3, pv_0, pv_1, va_rf_s, Nat.reduceDiv, Nat.reduceMod, Nat.reduceAdd, Nat.reduceMul, Int.reduceToNat, true_and, and_true, and_self, cP_eq, cP_ne, cP_lt, cP_ge, cP_gt, cP_le, eL_i, eL_l, eL_r, eL_n, Option.toList_none, Option.toList_some, List.nil_append, List.cons_append, kkI, llI, nnI, rrI, jjI, kkJ, llJ, nnJ, rrJ, iiJ, zIIs, zJJs, nEF, nET, and_false, false_and, jmin, jmax, catS_n, catS_i, catS_r, catS_l, Nat.reduceLeDiff, j1eq1, n21, jt0, jt1, Bool.false_eq_true, Classical.not_not, true_or, or_true, false_or, or_false, true_imp_iff, false_imp_iff, not_true_eq_false, not_false_eq_true, jif0, jif1, jifb, ltT, ltF, leT, leF, eqT, eqF, jlt, jle, jeq, jlt0, jle0, jeq0, jge0, jgt0, jinB, jnat, clt, cle, ceq, cgt, cge, lI_add, lI_sub, lI_mul, jadd, jsub, jmul, jneg, jtol, b010, b011, pv_2t, Int.toNat_natCast, Option.some.injEq, exists_eq_left', if_true, if_false, eq_self]
        refine vs_ok 2 ?_
        rw [show ((gRes 178).drop 37).take 2 = [.iconst 1000, .ireturn] from rfl]
        simp (disch := omega) only [vs_iconst, vs_ireturn, vs_nil, gv_0, gv_1, gv_2, gv_3, pv_0, pv_1, va_rf_s, Nat.reduceDiv, Nat.reduceMod, Nat.reduceAdd, Nat.reduceMul, Int.reduceToNat, true_and, and_true, and_self, cP_eq, cP_ne, cP_lt, cP_ge, cP_gt, cP_le, eL_i, eL_l, eL_r, eL_n, Option.toList_none, Option.toList_some, List.nil_append, List.cons_append, kkI, llI, nnI, rrI, jjI, kkJ, llJ, nnJ, rrJ, iiJ, zIIs, zJJs, nEF, nET, and_false, false_and, jmin, jmax, catS_n, catS_i, catS_r, catS_l, Nat.reduceLeDiff, j1eq1, n21, jt0, jt1, Bool.false_eq_true, Classical.not_not, true_or, or_true, false_or, or_false, true_imp_iff, false_imp_iff, not_true_eq_false, not_false_eq_true, jif0, jif1, jifb, ltT, ltF, leT, leF, eqT, eqF, jlt, jle, jeq, jlt0, jle0, jeq0, jge0, jgt0, jinB, jnat, clt, cle, ceq, cgt, cge, lI_add, lI_sub, lI_mul, jadd, jsub, jmul, jneg, jtol, b010, b011, pv_2t, Int.toNat_natCast, Option.some.injEq, exists_eq_left', if_true, if_false, show gRc 178 = 1 from rfl]
        exact h3 c
      · refine vs_ok 1 ?_
        rw [show ((gRes 178).drop 34).take 1 = [.ifCond .eq 37] from rfl]
        simp (disch := omega) only [vs_ifCond, vs_nil, gv_0, gv_1, gv_2, gv_3, pv_0, pv_1, va_rf_s, Nat.reduceDiv, Nat.reduceMod, Nat.reduceAdd, Nat.reduceMul, Int.reduceToNat, true_and, and_true, and_self, cP_eq, cP_ne, cP_lt, cP_ge, cP_gt, cP_le, eL_i, eL_l, eL_r, eL_n, Option.toList_none, Option.toList_some, List.nil_append, List.cons_append, kkI, llI, nnI, rrI, jjI, kkJ, llJ, nnJ, rrJ, iiJ, zIIs, zJJs, nEF, nET, and_false, false_and, jmin, jmax, catS_n, catS_i, catS_r, catS_l, Nat.reduceLeDiff, j1eq1, n21, jt0, jt1, Bool.false_eq_true, Classical.not_not, true_or, or_true, false_or, or_false, true_imp_iff, false_imp_iff, not_true_eq_false, not_false_eq_true, jif0, jif1, jifb, ltT, ltF, leT, leF, eqT, eqF, jlt, jle, jeq, jlt0, jle0, jeq0, jge0, jgt0, jinB, jnat, clt, cle, ceq, cgt, cge, lI_add, lI_sub, lI_mul, jadd, jsub, jmul, jneg, jtol, b010, b011, pv_2t, Int.toNat_natCast, Option.some.injEq, exists_eq_left', if_true, if_false, i1e0]
        refine vs_ok 2 ?_
        rw [show ((gRes 178).drop 35).take 2 = [.iload 5, .goto 38] from rfl]
        simp (disch := omega) only [vs_goto, vs_iload5, vs_nil, gv_0, gv_1, gv_2, gv_3, pv_0, pv_1, va_rf_s, Nat.reduceDiv, Nat.reduceMod, Nat.reduceAdd, Nat.reduceMul, Int.reduceToNat, true_and, and_true, and_self, cP_eq, cP_ne, cP_lt, cP_ge, cP_gt, cP_le, eL_i, eL_l, eL_r, eL_n, Option.toList_none, Option.toList_some, List.nil_append, List.cons_append, kkI, llI, nnI, rrI, jjI, kkJ, llJ, nnJ, rrJ, iiJ, zIIs, zJJs, nEF, nET, and_false, false_and, jmin, jmax, catS_n, catS_i, catS_r, catS_l, Nat.reduceLeDiff, j1eq1, n21, jt0, jt1, Bool.false_eq_true, Classical.not_not, true_or, or_true, false_or, or_false, true_imp_iff, false_imp_iff, not_true_eq_false, not_false_eq_true, jif0, jif1, jifb, ltT, ltF, leT, leF, eqT, eqF, jlt, jle, jeq, jlt0, jle0, jeq0, jge0, jgt0, jinB, jnat, clt, cle, ceq, cgt, cge, lI_add, lI_sub, lI_mul, jadd, jsub, jmul, jneg, jtol, b010, b011, pv_2t, Int.toNat_natCast, Option.some.injEq, exists_eq_left', if_true, if_false]
        refine vs_ok 1 ?_
        rw [show ((gRes 178).drop 38).take 1 = [.ireturn] from rfl]
        simp (disch := omega) only [vs_ireturn, vs_nil, gv_0, gv_1, gv_2, gv_3, pv_0, pv_1, va_rf_s, Nat.reduceDiv, Nat.reduceMod, Nat.reduceAdd, Nat.reduceMul, Int.reduceToNat, true_and, and_true, and_self, cP_eq, cP_ne, cP_lt, cP_ge, cP_gt, cP_le, eL_i, eL_l, eL_r, eL_n, Option.toList_none, Option.toList_some, List.nil_append, List.cons_append, kkI, llI, nnI, rrI, jjI, kkJ, llJ, nnJ, rrJ, iiJ, zIIs, zJJs, nEF, nET, and_false, false_and, jmin, jmax, catS_n, catS_i, catS_r, catS_l, Nat.reduceLeDiff, j1eq1, n21, jt0, jt1, Bool.false_eq_true, Classical.not_not, true_or, or_true, false_or, or_false, true_imp_iff, false_imp_iff, not_true_eq_false, not_false_eq_true, jif0, jif1, jifb, ltT, ltF, leT, leF, eqT, eqF, jlt, jle, jeq, jlt0, jle0, jeq0, jge0, jgt0, jinB, jnat, clt, cle, ceq, cgt, cge, lI_add, lI_sub, lI_mul, jadd, jsub, jmul, jneg, jtol, b010, b011, pv_2t, Int.toNat_natCast, Option.some.injEq, exists_eq_left', if_true, if_false, show gRc 178 = 1 from rfl]
        exact h1 c
    · rw [if_neg cb]
      refine vs_ok 1 ?_
      rw [show ((gRes 178).drop 9).take 1 = [.ifCond .ne 14] from rfl]
      simp (disch := omega) only [vs_ifCond, vs_nil, gv_0, gv_1, gv_2, gv_3, pv_0, pv_1, va_rf_s, Nat.reduceDiv, Nat.reduceMod, Nat.reduceAdd, Nat.reduceMul, Int.reduceToNat, true_and, and_true, and_self, cP_eq, cP_ne, cP_lt, cP_ge, cP_gt, cP_le, eL_i, eL_l, eL_r, eL_n, Option.toList_none, Option.toList_some, List.nil_append, List.cons_append, kkI, llI, nnI, rrI, jjI, kkJ, llJ, nnJ, rrJ, iiJ, zIIs, zJJs, nEF, nET, and_false, false_and, jmin, jmax, catS_n, catS_i, catS_r, catS_l, Nat.reduceLeDiff, j1eq1, n21, jt0, jt1, Bool.false_eq_true, Classical.not_not, true_or, or_true, false_or, or_false, true_imp_iff, false_imp_iff, not_true_eq_false, not_false_eq_true, jif0, jif1, jifb, ltT, ltF, leT, leF, eqT, eqF, jlt, jle, jeq, jlt0, jle0, jeq0, jge0, jgt0, jinB, jnat, clt, cle, ceq, cgt, cge, lI_add, lI_sub, lI_mul, jadd, jsub, jmul, jneg, jtol, b010, b011, pv_2t, Int.toNat_natCast, Option.some.injEq, exists_eq_left', if_true, if_false]
      refine vs_ok 1 ?_
      rw [show ((gRes 178).drop 10).take 1 = [.athrow] from rfl]
      simp (disch := omega) only [vs_athrow, vs_nil, gv_0, gv_1, gv_2, gv_3, pv_0, pv_1, va_rf_s, Nat.reduceDiv, Nat.reduceMod, Nat.reduceAdd, Nat.reduceMul, Int.reduceToNat, true_and, and_true, and_self, cP_eq, cP_ne, cP_lt, cP_ge, cP_gt, cP_le, eL_i, eL_l, eL_r, eL_n, Option.toList_none, Option.toList_some, List.nil_append, List.cons_append, kkI, llI, nnI, rrI, jjI, kkJ, llJ, nnJ, rrJ, iiJ, zIIs, zJJs, nEF, nET, and_false, false_and, jmin, jmax, catS_n, catS_i, catS_r, catS_l, Nat.reduceLeDiff, j1eq1, n21, jt0, jt1, Bool.false_eq_true, Classical.not_not, true_or, or_true, false_or, or_false, true_imp_iff, false_imp_iff, not_true_eq_false, not_false_eq_true, jif0, jif1, jifb, ltT, ltF, leT, leF, eqT, eqF, jlt, jle, jeq, jlt0, jle0, jeq0, jge0, jgt0, jinB, jnat, clt, cle, ceq, cgt, cge, lI_add, lI_sub, lI_mul, jadd, jsub, jmul, jneg, jtol, b010, b011, pv_2t, Int.toNat_natCast, Option.some.injEq, exists_eq_left', if_true, if_false]
      exact h0 fun z => cb z.2
  · rw [if_neg ca]
    refine vs_ok 1 ?_
    rw [show ((gRes 178).drop 4).take 1 = [.ifCond .eq 10] from rfl]
    simp (disch := omega) only [vs_ifCond, vs_nil, gv_0, gv_1, gv_2, gv_3, pv_0, pv_1, va_rf_s, Nat.reduceDiv, Nat.reduceMod, Nat.reduceAdd, Nat.reduceMul, Int.reduceToNat, true_and, and_true, and_self, cP_eq, cP_ne, cP_lt, cP_ge, cP_gt, cP_le, eL_i, eL_l, eL_r, eL_n, Option.toList_none, Option.toList_some, List.nil_append, List.cons_append, kkI, llI, nnI, rrI, jjI, kkJ, llJ, nnJ, rrJ, iiJ, zIIs, zJJs, nEF, nET, and_false, false_and, jmin, jmax, catS_n, catS_i, catS_r, catS_l, Nat.reduceLeDiff, j1eq1, n21, jt0, jt1, Bool.false_eq_true, Classical.not_not, true_or, or_true, false_or, or_false, true_imp_iff, false_imp_iff, not_true_eq_false, not_false_eq_true, jif0, jif1, jifb, ltT, ltF, leT, leF, eqT, eqF, jlt, jle, jeq, jlt0, jle0, jeq0, jge0, jgt0, jinB, jnat, clt, cle, ceq, cgt, cge, lI_add, lI_sub, lI_mul, jadd, jsub, jmul, jneg, jtol, b010, b011, pv_2t, Int.toNat_natCast, Option.some.injEq, exists_eq_left', if_true, if_false]
    refine vs_ok 1 ?_
    rw [show ((gRes 178).drop 10).take 1 = [.athrow] from rfl]
    simp (disch := omega) only [vs_athrow, vs_nil, gv_0, gv_1, gv_2, gv_3, pv_0, pv_1, va_rf_s, Nat.reduceDiv, Nat.reduceMod, Nat.reduceAdd, Nat.reduceMul, Int.reduceToNat, true_and, and_true, and_self, cP_eq, cP_ne, cP_lt, cP_ge, cP_gt, cP_le, eL_i, eL_l, eL_r, eL_n, Option.toList_none, Option.toList_some, List.nil_append, List.cons_append, kkI, llI, nnI, rrI, jjI, kkJ, llJ, nnJ, rrJ, iiJ, zIIs, zJJs, nEF, nET, and_false, false_and, jmin, jmax, catS_n, catS_i, catS_r, catS_l, Nat.reduceLeDiff, j1eq1, n21, jt0, jt1, Bool.false_eq_true, Classical.not_not, true_or, or_true, false_or, or_false, true_imp_iff, false_imp_iff, not_true_eq_false, not_false_eq_true, jif0, jif1, jifb, ltT, ltF, leT, leF, eqT, eqF, jlt, jle, jeq, jlt0, jle0, jeq0, jge0, jgt0, jinB, jnat, clt, cle, ceq, cgt, cge, lI_add, lI_sub, lI_mul, jadd, jsub, jmul, jneg, jtol, b010, b011, pv_2t, Int.toNat_natCast, Option.some.injEq, exists_eq_left', if_true, if_false]
    exact h0 fun z => ca z.1
