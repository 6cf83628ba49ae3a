/-! the Model's net: row, beaten, threes, anyTwo, bits, top -/
def nsg (bt : Nat → Nat) (a b : Nat) : Int := if (bt a).testBit b = true then 1 else if (bt b).testBit a = true then -1 else 0
theorem nsg_b (bt : Nat → Nat) (a b : Nat) : -1 ≤ nsg bt a b ∧ nsg bt a b ≤ 1 := by
  unfold nsg
  split
  · omega
  · split <;> omega
/-- who beats whom among nm: nobody himself, no two one another -/
def btP (bt : Nat → Nat) (nm : Nat) : Prop := ∀ a, a < nm → bt a < 2 ^ nm ∧ ∀ j, (bt a).testBit j = true → j ≠ a ∧ (bt j).testBit a = false
/-- the Model's net -/
def mtN (h : Hp) (m nm : Nat) (bt : Nat → Nat) : Prop := ∀ a b, a < nm → b < nm → zI h (m + 8) (12 * a + b) = iI (nsg bt a b)
theorem mtN.fi {S : Nat → Prop} {h g : Hp} {m nm : Nat} {bt : Nat → Nat} (n : mtN h m nm bt) (f : fi S h g) (h8 : ¬ S (m + 8)) : mtN g m nm bt := fun a b ha hb => by rw [f.1.2.2.2.2.2.1 _ h8]; exact n a b ha hb
theorem ns1 (bt : Nat → Nat) (a b : Nat) : (nsg bt a b = 1) = ((bt a).testBit b = true) := by
  unfold nsg
  apply propext
  by_cases c : (bt a).testBit b = true
  · rw [if_pos c]
    exact ⟨fun _ => c, fun _ => rfl⟩
  · rw [if_neg c]
    constructor
    · intro z
      split at z <;> omega
    · exact fun z => absurd z c
theorem md_s (x n : Nat) (c : x.testBit n = true) : x % 2 ^ n ||| 2 ^ n = x % 2 ^ (n + 1) := by
  refine Nat.eq_of_testBit_eq fun i => ?_
  rw [Nat.testBit_or, Nat.testBit_mod_two_pow, Nat.testBit_mod_two_pow, Nat.testBit_two_pow]
  by_cases e : n = i
  · subst e
    simp [c]
  · by_cases l : i < n
    · simp [e, l, show i < n + 1 by omega]
    · simp [e, l, show ¬ i < n + 1 by omega]
theorem md_t (x n : Nat) (c : ¬ x.testBit n = true) : x % 2 ^ n = x % 2 ^ (n + 1) := by
  refine Nat.eq_of_testBit_eq fun i => ?_
  rw [Nat.testBit_mod_two_pow, Nat.testBit_mod_two_pow]
  by_cases e : n = i
  · subst e
    simp [Bool.eq_false_iff.mpr c]
  · by_cases l : i < n
    · simp [l, show i < n + 1 by omega]
    · simp [l, show ¬ i < n + 1 by omega]
theorem t_M_row {d : Nat} {h : Hp} {m nm a : Nat} {bt : Nat → Nat} {Q : Nat → Option Value → Hp → Prop} (hm : mO h m) (hn : zI h (m + 7) 0 = iI nm) (hb : nm ≤ 12) (n : mtN h m nm bt) (hp : btP bt nm) (ha : a < nm) (hq : Q 0 (some (.int (iI (bt a)))) h) : PR d m_M_row [.ref m, .int (iI a)] h Q := by
  have M := hm.k
  have A := hm.nameMany
  have A8 := hm.net
  have pb := pw_b hb
  have ba := (hp a ha).1
  show PW d 227 0 [some (.ref m), some (.int (iI a)), none, none] [] h Q
  have lp : ∀ (j b : Nat), j + b = nm → PW d 227 4 [some (.ref m), some (.int (iI a)), some (.int (iI ((bt a % 2 ^ b : Nat) : Int))), some (.int (iI b))] [] h Q := by
    intro j
    induction j with
    | zero =>
      intro b hj
      have e : b = nm := by omega
      subst e
      rw [Nat.mod_eq_of_lt ba]
      refine vs_ok 6 ?_
      rw [show ((gRes 227).drop 4).take 6 = [.iload 3, .aload 0, .getfield 12112, .iconst 0, .iaload, .if_icmp .ge 30] from rfl]
      simp (disch := omega) only [vs_iconst, vs_if_icmp, vs_getfield, vs_iaload, vs_aload0, vs_iload3, vs_nil, gv_0, gv_1, gv_2, gv_3, pv_0, pv_1, va_rf_s, Nat.reduceDiv, Nat.reduceMod, Nat.reduceAdd, Nat.reduceMul, Int.reduceToNat, true_and, and_true, and_self, cP_eq, cP_ne, cP_lt, cP_ge, cP_gt, cP_le, eL_i, eL_l, eL_r, eL_n, Option.toList_none, Option.toList_some, List.nil_append, List.cons_append, kkI, llI, nnI, rrI, jjI, kkJ, llJ, nnJ, rrJ, iiJ, zIIs, zJJs, nEF, nET, and_false, false_and, jmin, jmax, catS_n, catS_i, catS_r, catS_l, Nat.reduceLeDiff, j1eq1, n21, jt0, jt1, Bool.false_eq_true, Classical.not_not, true_or, or_true, false_or, or_false, true_imp_iff, false_imp_iff, not_true_eq_false, not_false_eq_true, jif0, jif1, jifb, ltT, ltF, leT, leF, eqT, eqF, jlt, jle, jeq, jlt0, jle0, jeq0, jge0, jgt0, jinB, jnat, clt, cle, ceq, cgt, cge, lI_add, lI_sub, lI_mul, jadd, jsub, jmul, jneg, jtol, b010, b011, pv_2t, Int.toNat_natCast, Option.some.injEq, exists_eq_left', if_true, if_false, M, A, hn]
      refine vs_ok 2 ?_
      rw [show ((gRes 227).drop 30).take 2 = [.iload 2, .ireturn] from rfl]
      simp (disch := omega) only [vs_ireturn, vs_iload2, vs_nil, gv_0, gv_1, gv_2, gv_3, pv_0, pv_1, va_rf_s, Nat.reduceDiv, Nat.reduceMod, Nat.reduceAdd, Nat.reduceMul, Int.reduceToNat, true_and, and_true, and_self, cP_eq, cP_ne, cP_lt, cP_ge, cP_gt, cP_le, eL_i, eL_l, eL_r, eL_n, Option.toList_none, Option.toList_some, List.nil_append, List.cons_append, kkI, llI, nnI, rrI, jjI, kkJ, llJ, nnJ, rrJ, iiJ, zIIs, zJJs, nEF, nET, and_false, false_and, jmin, jmax, catS_n, catS_i, catS_r, catS_l, Nat.reduceLeDiff, j1eq1, n21, jt0, jt1, Bool.false_eq_true, Classical.not_not, true_or, or_true, false_or, or_false, true_imp_iff, false_imp_iff, not_true_eq_false, not_false_eq_true, jif0, jif1, jifb, ltT, ltF, leT, leF, eqT, eqF, jlt, jle, jeq, jlt0, jle0, jeq0, jge0, jgt0, jinB, jnat, clt, cle, ceq, cgt, cge, lI_add, lI_sub, lI_mul, jadd, jsub, jmul, jneg, jtol, b010, b011, pv_2t, Int.toNat_natCast, Option.some.injEq, exists_eq_left', if_true, if_false, show gRc 227 = 1 from rfl]
      exact hq
    | succ j ih =>
      intro b hj
      have y := ih (b + 1) (by omega)
      have e : (12 : Int) * (a : Int) + (b : Int) = ((12 * a + b : Nat) : Int) := by omega
      have v := n a b ha (by omega)
      have sb := nsg_b bt a b
      have s1 := ns1 bt a b
      have lt := Nat.mod_lt (bt a) (Nat.two_pow_pos b)
      have l2 := p2_12 (k := b) (by omega)
      by_cases c : (bt a).testBit b = true
      · rw [← md_s (bt a) b c] at y
        have s2 : nsg bt a b = 1 := by rw [s1]; exact c
        rw [s2] at v
        refine vs_ok 6 ?_
        rw [show ((gRes 227).drop 4).take 6 = [.iload 3, .aload 0, .getfield 12112, .iconst 0, .iaload, .if_icmp .ge 30] from rfl]
        simp (disch := omega) only [vs_iconst, vs_if_icmp, vs_getfield, vs_iaload, vs_aload0, vs_iload3, vs_nil, gv_0, gv_1, gv_2, gv_3, pv_0, pv_1, va_rf_s, Nat.reduceDiv, Nat.reduceMod, Nat.reduceAdd, Nat.reduceMul, Int.reduceToNat, true_and, and_true, and_self, cP_eq, cP_ne, cP_lt, cP_ge, cP_gt, cP_le, eL_i, eL_l, eL_r, eL_n, Option.toList_none, Option.toList_some, List.nil_append, List.cons_append, kkI, llI, nnI, rrI, jjI, kkJ, llJ, nnJ, rrJ, iiJ, zIIs, zJJs, nEF, nET, and_false, false_and, jmin, jmax, catS_n, catS_i, catS_r, catS_l, Nat.reduceLeDiff, j1eq1, n21, jt0, jt1, Bool.false_eq_true, Classical.not_not, true_or, or_true, false_or, or_false, true_imp_iff, false_imp_iff, not_true_eq_false, not_false_eq_true, jif0, jif1, jifb, ltT, ltF, leT, leF, eqT, eqF, jlt, jle, jeq, jlt0, jle0, jeq0, jge0, jgt0, jinB, jnat, clt, cle, ceq, cgt, cge, lI_add, lI_sub, lI_mul, jadd, jsub, jmul, jneg, jtol, b010, b011, pv_2t, Int.toNat_natCast, Option.some.injEq, exists_eq_left', if_true, if_false, M, A, hn]
        refine vs_ok 15 ?_
        rw [show ((gRes 227).drop 10).take 15 = [.iload 2, .aload 0, .getfield 12122, .iconst 12, .iload 1, .imul, .iload 3, .iadd, .iaload, .iconst 1, .if_icmp .ne 25, .iconst 1, .iload 3, .ishl, .goto 26] from rfl]
        simp (disch := omega) only [vs_iadd, vs_imul, vs_iconst, vs_goto, vs_if_icmp, vs_getfield, vs_iaload, vs_aload0, vs_iload1, vs_iload2, vs_iload3, vs_nil, gv_0, gv_1, gv_2, gv_3, pv_0, pv_1, va_rf_s, vs_ishl, Nat.reduceDiv, Nat.reduceMod, Nat.reduceAdd, Nat.reduceMul, Int.reduceToNat, true_and, and_true, and_self, cP_eq, cP_ne, cP_lt, cP_ge, cP_gt, cP_le, eL_i, eL_l, eL_r, eL_n, Option.toList_none, Option.toList_some, List.nil_append, List.cons_append, kkI, llI, nnI, rrI, jjI, kkJ, llJ, nnJ, rrJ, iiJ, zIIs, zJJs, nEF, nET, and_false, false_and, jmin, jmax, catS_n, catS_i, catS_r, catS_l, Nat.reduceLeDiff, j1eq1, n21, jt0, jt1, Bool.false_eq_true, Classical.not_not, true_or, or_true, false_or, or_false, true_imp_iff, false_imp_iff, not_true_eq_false, not_false_eq_true, jif0, jif1, jifb, ltT, ltF, leT, leF, eqT, eqF, jlt, jle, jeq, jlt0, jle0, jeq0, jge0, jgt0, jinB, jnat, clt, cle, ceq, cgt, cge, lI_add, lI_sub, lI_mul, jadd, jsub, jmul, jneg, jtol, b010, b011, pv_2t, Int.toNat_natCast, Option.some.injEq, exists_eq_left', if_true, if_false, M, A8, e, v]
        refine vs_ok 4 ?_
        rw [show ((gRes 227).drop 26).take 4 = [.ior, .istore 2, .iinc 3 1, .goto 4] from rfl]
        simp (disch := omega) only [vs_goto, vs_istore2n, vs_istore2i, vs_istore2r, vs_istore2l, vs_iinc3n, vs_iinc3i, vs_iinc3r, vs_iinc3l, vs_nil, gv_0, gv_1, gv_2, gv_3, pv_0, pv_1, va_rf_s, vs_ior, Nat.reduceDiv, Nat.reduceMod, Nat.reduceAdd, Nat.reduceMul, Int.reduceToNat, true_and, and_true, and_self, cP_eq, cP_ne, cP_lt, cP_ge, cP_gt, cP_le, eL_i, eL_l, eL_r, eL_n, Option.toList_none, Option.toList_some, List.nil_append, List.cons_append, kkI, llI, nnI, rrI, jjI, kkJ, llJ, nnJ, rrJ, iiJ, zIIs, zJJs, nEF, nET, and_false, false_and, jmin, jmax, catS_n, catS_i, catS_r, catS_l, Nat.reduceLeDiff, j1eq1, n21, jt0, jt1, Bool.false_eq_true, Classical.not_not, true_or, or_true, false_or, or_false, true_imp_iff, false_imp_iff, not_true_eq_false, not_false_eq_true, jif0, jif1, jifb, ltT, ltF, leT, leF, eqT, eqF, jlt, jle, jeq, jlt0, jle0, jeq0, jge0, jgt0, jinB, jnat, clt, cle, ceq, cgt, cge, lI_add, lI_sub, lI_mul, jadd, jsub, jmul, jneg, jtol, b010, b011, pv_2t, Int.toNat_natCast, Option.some.injEq, exists_eq_left', if_true, if_false, jshl1, jor]
        exact y
      · rw [← md_t (bt a) b c] at y
        have s2 : ¬ nsg bt a b = 1 := by rw [s1]; exact c
        have or0 : bt a % 2 ^ b ||| 0 = bt a % 2 ^ b := Nat.or_zero _
        refine vs_ok 6 ?_
        rw [show ((gRes 227).drop 4).take 6 = [.iload 3, .aload 0, .getfield 12112, .iconst 0, .iaload, .if_icmp .ge 30] from rfl]
        simp (disch := omega) only [vs_iconst, vs_if_icmp, vs_getfield, vs_iaload, vs_aload0, vs_iload3, vs_nil, gv_0, gv_1, gv_2, gv_3, pv_0, pv_1, va_rf_s, Nat.reduceDiv, Nat.reduceMod, Nat.reduceAdd, Nat.reduceMul, Int.reduceToNat, true_and, and_true, and_self, cP_eq, cP_ne, cP_lt, cP_ge, cP_gt, cP_le, eL_i, eL_l, eL_r, eL_n, Option.toList_none, Option.toList_some, List.nil_append, List.cons_append, kkI, llI, nnI, rrI, jjI, kkJ, llJ, nnJ, rrJ, iiJ, zIIs, zJJs, nEF, nET, and_false, false_and, jmin, jmax, catS_n, catS_i, catS_r, catS_l, Nat.reduceLeDiff, j1eq1, n21, jt0, jt1, Bool.false_eq_true, Classical.not_not, true_or, or_true, false_or, or_false, true_imp_iff, false_imp_iff, not_true_eq_false, not_false_eq_true, jif0, jif1, jifb, ltT, ltF, leT, leF, eqT, eqF, jlt, jle, jeq, jlt0, jle0, jeq0, jge0, jgt0, jinB, jnat, clt, cle, ceq, cgt, cge, lI_add, lI_sub, lI_mul, jadd, jsub, jmul, jneg, jtol, b010, b011, pv_2t, Int.toNat_natCast, Option.some.injEq, exists_eq_left', if_true, if_false, M, A, hn]
        refine vs_ok 11 ?_
        rw [show ((gRes 227).drop 10).take 11 = [.iload 2, .aload 0, .getfield 12122, .iconst 12, .iload 1, .imul, .iload 3, .iadd, .iaload, .iconst 1, .if_icmp .ne 25] from rfl]
        simp (disch := omega) only [vs_iadd, vs_imul, vs_iconst, vs_if_icmp, vs_getfield, vs_iaload, vs_aload0, vs_iload1, vs_iload2, vs_iload3, vs_nil, gv_0, gv_1, gv_2, gv_3, pv_0, pv_1, va_rf_s, Nat.reduceDiv, Nat.reduceMod, Nat.reduceAdd, Nat.reduceMul, Int.reduceToNat, true_and, and_true, and_self, cP_eq, cP_ne, cP_lt, cP_ge, cP_gt, cP_le, eL_i, eL_l, eL_r, eL_n, Option.toList_none, Option.toList_some, List.nil_append, List.cons_append, kkI, llI, nnI, rrI, jjI, kkJ, llJ, nnJ, rrJ, iiJ, zIIs, zJJs, nEF, nET, and_false, false_and, jmin, jmax, catS_n, catS_i, catS_r, catS_l, Nat.reduceLeDiff, j1eq1, n21, jt0, jt1, Bool.false_eq_true, Classical.not_not, true_or, or_true, false_or, or_false, true_imp_iff, false_imp_iff, not_true_eq_false, not_false_eq_true, jif0, jif1, jifb, ltT, ltF, leT, leF, eqT, eqF, jlt, jle, jeq, jlt0, jle0, jeq0, jge0, jgt0, jinB, jnat, clt, cle, ceq, cgt, cge, lI_add, lI_sub, lI_mul, jadd, jsub, jmul, jneg, jtol, b010, b011, pv_2t, Int.toNat_natCast, Option.some.injEq, exists_eq_left', if_true, if_false, M, A8, e, v]
        refine vs_ok 6 ?_
        rw [show ((gRes 227).drop 25).take 6 = [.iconst 0, .ior, .istore 2, .iinc 3 1, .goto 4, .iload 2] from rfl]
        simp (disch := omega) only [vs_iconst, vs_ior, vs_istore2i, vs_iinc3i, vs_goto, show Int32.ofInt ((bt a % 2 ^ b : Nat) : Int) ||| Int32.ofInt 0 = Int32.ofInt ((bt a % 2 ^ b : Nat) : Int) from (jor _ 0).trans (by rw [or0]), jadd]
        exact y
  refine vs_ok 4 ?_
  rw [show ((gRes 227).drop 0).take 4 = [.iconst 0, .istore 2, .iconst 0, .istore 3] from rfl]
  simp (disch := omega) only [vs_iconst, vs_istore2n, vs_istore2i, vs_istore2r, vs_istore2l, vs_istore3n, vs_istore3i, vs_istore3r, vs_istore3l, vs_nil, gv_0, gv_1, gv_2, gv_3, pv_0, pv_1, va_rf_s, Nat.reduceDiv, Nat.reduceMod, Nat.reduceAdd, Nat.reduceMul, Int.reduceToNat, true_and, and_true, and_self, cP_eq, cP_ne, cP_lt, cP_ge, cP_gt, cP_le, eL_i, eL_l, eL_r, eL_n, Option.toList_none, Option.toList_some, List.nil_append, List.cons_append, kkI, llI, nnI, rrI, jjI, kkJ, llJ, nnJ, rrJ, iiJ, zIIs, zJJs, nEF, nET, and_false, false_and, jmin, jmax, catS_n, catS_i, catS_r, catS_l, Nat.reduceLeDiff, j1eq1, n21, jt0, jt1, Bool.false_eq_true, Classical.not_not, true_or, or_true, false_or, or_false, true_imp_iff, false_imp_iff, not_true_eq_false, not_false_eq_true, jif0, jif1, jifb, ltT, ltF, leT, leF, eqT, eqF, jlt, jle, jeq, jlt0, jle0, jeq0, jge0, jgt0, jinB, jnat, clt, cle, ceq, cgt, cge, lI_add, lI_sub, lI_mul, jadd, jsub, jmul, jneg, jtol, b010, b011, pv_2t, Int.toNat_natCast, Option.some.injEq, exists_eq_left', if_true, if_false]
  have := lp nm 0 (by omega)
  rw [show bt a % 2 ^ 0 = 0 from Nat.mod_one _] at this
  exact this
theorem t_M_beaten {d : Nat} {h : Hp} {m nm : Nat} {a : Int} {bt : Nat → Nat} {Q : Nat → Option Value → Hp → Prop} (hm : mO h m) (hn : zI h (m + 7) 0 = iI nm) (hb : nm ≤ 12) (n : mtN h m nm bt) (hp : btP bt nm) (ha : i32 a) (hq : ∀ g, mt0 h g m 0 → Q 0 (some (.int (iI (if 0 ≤ a ∧ a < nm then (bt a.toNat : Int) else -1)))) g) : PR (d + 2) m_M_beaten [.ref m, .int (iI a)] h Q := by
  have M := hm.k
  show PW (d + 2) 228 0 [some (.ref m), some (.int (iI a))] [] h Q
  refine vs_ok 5 ?_
  rw [show ((gRes 228).drop 0).take 5 = [.aload 0, .iconst 0, .putfield 12000, .aload 0, .iload 1] from rfl]
  simp (disch := omega) only [vs_iconst, vs_putfield, vs_aload0, vs_iload1, vs_nil, gv_0, gv_1, gv_2, gv_3, pv_0, pv_1, va_rf_s, Nat.reduceDiv, Nat.reduceMod, Nat.reduceAdd, Nat.reduceMul, Int.reduceToNat, true_and, and_true, and_self, cP_eq, cP_ne, cP_lt, cP_ge, cP_gt, cP_le, eL_i, eL_l, eL_r, eL_n, Option.toList_none, Option.toList_some, List.nil_append, List.cons_append, kkI, llI, nnI, rrI, jjI, kkJ, llJ, nnJ, rrJ, iiJ, zIIs, zJJs, nEF, nET, and_false, false_and, jmin, jmax, catS_n, catS_i, catS_r, catS_l, Nat.reduceLeDiff, j1eq1, n21, jt0, jt1, Bool.false_eq_true, Classical.not_not, true_or, or_true, false_or, or_false, true_imp_iff, false_imp_iff, not_true_eq_false, not_false_eq_true, jif0, jif1, jifb, ltT, ltF, leT, leF, eqT, eqF, jlt, jle, jeq, jlt0, jle0, jeq0, jge0, jgt0, jinB, jnat, clt, cle, ceq, cgt, cge, lI_add, lI_sub, lI_mul, jadd, jsub, jmul, jneg, jtol, b010, b011, pv_2t, Int.toNat_natCast, Option.some.injEq, exists_eq_left', if_true, if_false, M]
  have z := mt0_s (h := h) (m := m) 0
  have q := hq _ z
  have hg := hm.fi z.1
  have ng := n.fi z.1 (by omega)
  have n7 : zI (zsI h m 0 (iI 0)) (m + 7) 0 = iI nm := by rw [zI_s, if_neg (by omega)]; exact hn
  generalize zsI h m 0 (iI 0) = g at *
  refine PW.iv rfl rfl rfl hg.k.1 hg.k.2 (le_b rfl) (le_b rfl) ?_
  refine t_M_is hg n7 hb ha ⟨rfl, ⟨rfl, rfl⟩, ?_⟩
  by_cases c : 0 ≤ a ∧ a < nm
  · rw [if_pos c]
    rw [if_pos c] at q
    obtain ⟨a, rfl⟩ : ∃ j : Nat, a = j := ⟨a.toNat, by omega⟩
    refine vs_ok 3 ?_
    rw [show ((gRes 228).drop 6).take 3 = [.ifCond .eq 11, .aload 0, .iload 1] from rfl]
    simp (disch := omega) only [vs_ifCond, vs_aload0, vs_iload1, vs_nil, gv_0, gv_1, gv_2, gv_3, pv_0, pv_1, va_rf_s, Nat.reduceDiv, Nat.reduceMod, Nat.reduceAdd, Nat.reduceMul, Int.reduceToNat, true_and, and_true, and_self, cP_eq, cP_ne, cP_lt, cP_ge, cP_gt, cP_le, eL_i, eL_l, eL_r, eL_n, Option.toList_none, Option.toList_some, List.nil_append, List.cons_append, kkI, llI, nnI, rrI, jjI, kkJ, llJ, nnJ, rrJ, iiJ, zIIs, zJJs, nEF, nET, and_false, false_and, jmin, jmax, catS_n, catS_i, catS_r, catS_l, Nat.reduceLeDiff, j1eq1, n21, jt0, jt1, Bool.false_eq_true, Classical.not_not, true_or, or_true, false_or, or_false, true_imp_iff, false_imp_iff, not_true_eq_false, not_false_eq_true, jif0, jif1, jifb, ltT, ltF, leT, leF, eqT, eqF, jlt, jle, jeq, jlt0, jle0, jeq0, jge0, jgt0, jinB, jnat, clt, cle, ceq, cgt, cge, lI_add, lI_sub, lI_mul, jadd, jsub, jmul, jneg, jtol, b010, b011, pv_2t, Int.toNat_natCast, Option.some.injEq, exists_eq_left', if_true, if_false]
    refine PW.iv rfl rfl rfl hg.k.1 hg.k.2 (le_b rfl) (le_b rfl) ?_
    refine t_M_row hg n7 hb ng hp (show a < nm by omega) ⟨rfl, ⟨rfl, rfl⟩, ?_⟩
    refine vs_ok 1 ?_
    rw [show ((gRes 228).drop 10).take 1 = [.goto 12] from rfl]
    simp (disch := omega) only [vs_goto, vs_nil, gv_0, gv_1, gv_2, gv_3, pv_0, pv_1, va_rf_s, Nat.reduceDiv, Nat.reduceMod, Nat.reduceAdd, Nat.reduceMul, Int.reduceToNat, true_and, and_true, and_self, cP_eq, cP_ne, cP_lt, cP_ge, cP_gt, cP_le, eL_i, eL_l, eL_r, eL_n, Option.toList_none, Option.toList_some, List.nil_append, List.cons_append, kkI, llI, nnI, rrI, jjI, kkJ, llJ, nnJ, rrJ, iiJ, zIIs, zJJs, nEF, nET, and_false, false_and, jmin, jmax, catS_n, catS_i, catS_r, catS_l, Nat.reduceLeDiff, j1eq1, n21, jt0, jt1, Bool.false_eq_true, Classical.not_not, true_or, or_true, false_or, or_false, true_imp_iff, false_imp_iff, not_true_eq_false, not_false_eq_true, jif0, jif1, jifb, ltT, ltF, leT, leF, eqT, eqF, jlt, jle, jeq, jlt0, jle0, jeq0, jge0, jgt0, jinB, jnat, clt, cle, ceq, cgt, cge, lI_add, lI_sub, lI_mul, jadd, jsub, jmul, jneg, jtol, b010, b011, pv_2t, Int.toNat_natCast, Option.some.injEq, exists_eq_left', if_true, if_false]
    refine vs_ok 1 ?_
    rw [show ((gRes 228).drop 12).take 1 = [.ireturn] from rfl]
    simp (disch := omega) only [vs_ireturn, vs_nil, gv_0, gv_1, gv_2, gv_3, pv_0, pv_1, va_rf_s, Nat.reduceDiv, Nat.reduceMod, Nat.reduceAdd, Nat.reduceMul, Int.reduceToNat, true_and, and_true, and_self, cP_eq, cP_ne, cP_lt, cP_ge, cP_gt, cP_le, eL_i, eL_l, eL_r, eL_n, Option.toList_none, Option.toList_some, List.nil_append, List.cons_append, kkI, llI, nnI, rrI, jjI, kkJ, llJ, nnJ, rrJ, iiJ, zIIs, zJJs, nEF, nET, and_false, false_and, jmin, jmax, catS_n, catS_i, catS_r, catS_l, Nat.reduceLeDiff, j1eq1, n21, jt0, jt1, Bool.false_eq_true, Classical.not_not, true_or, or_true, false_or, or_false, true_imp_iff, false_imp_iff, not_true_eq_false, not_false_eq_true, jif0, jif1, jifb, ltT, ltF, leT, leF, eqT, eqF, jlt, jle, jeq, jlt0, jle0, jeq0, jge0, jgt0, jinB, jnat, clt, cle, ceq, cgt, cge, lI_add, lI_sub, lI_mul, jadd, jsub, jmul, jneg, jtol, b010, b011, pv_2t, Int.toNat_natCast, Option.some.injEq, exists_eq_left', if_true, if_false, show gRc 228 = 1 from rfl]
    exact q
  · rw [if_neg c]
    rw [if_neg c] at q
    refine vs_ok 1 ?_
    rw [show ((gRes 228).drop 6).take 1 = [.ifCond .eq 11] from rfl]
    simp (disch := omega) only [vs_ifCond, vs_nil, gv_0, gv_1, gv_2, gv_3, pv_0, pv_1, va_rf_s, Nat.reduceDiv, Nat.reduceMod, Nat.reduceAdd, Nat.reduceMul, Int.reduceToNat, true_and, and_true, and_self, cP_eq, cP_ne, cP_lt, cP_ge, cP_gt, cP_le, eL_i, eL_l, eL_r, eL_n, Option.toList_none, Option.toList_some, List.nil_append, List.cons_append, kkI, llI, nnI, rrI, jjI, kkJ, llJ, nnJ, rrJ, iiJ, zIIs, zJJs, nEF, nET, and_false, false_and, jmin, jmax, catS_n, catS_i, catS_r, catS_l, Nat.reduceLeDiff, j1eq1, n21, jt0, jt1, Bool.false_eq_true, Classical.not_not, true_or, or_true, false_or, or_false, true_imp_iff, false_imp_iff, not_true_eq_false, not_false_eq_true, jif0, jif1, jifb, ltT, ltF, leT, leF, eqT, eqF, jlt, jle, jeq, jlt0, jle0, jeq0, jge0, jgt0, jinB, jnat, clt, cle, ceq, cgt, cge, lI_add, lI_sub, lI_mul, jadd, jsub, jmul, jneg, jtol, b010, b011, pv_2t, Int.toNat_natCast, Option.some.injEq, exists_eq_left', if_true, if_false]
    refine vs_ok 2 ?_
    rw [show ((gRes 228).drop 11).take 2 = [.iconst (-1), .ireturn] from rfl]
    simp (disch := omega) only [vs_iconst, vs_ireturn, vs_nil, gv_0, gv_1, gv_2, gv_3, pv_0, pv_1, va_rf_s, Nat.reduceDiv, Nat.reduceMod, Nat.reduceAdd, Nat.reduceMul, Int.reduceToNat, true_and, and_true, and_self, cP_eq, cP_ne, cP_lt, cP_ge, cP_gt, cP_le, eL_i, eL_l, eL_r, eL_n, Option.toList_none, Option.toList_some, List.nil_append, List.cons_append, kkI, llI, nnI, rrI, jjI, kkJ, llJ, nnJ, rrJ, iiJ, zIIs, zJJs, nEF, nET, and_false, false_and, jmin, jmax, catS_n, catS_i, catS_r, catS_l, Nat.reduceLeDiff, j1eq1, n21, jt0, jt1, Bool.false_eq_true, Classical.not_not, true_or, or_true, false_or, or_false, true_imp_iff, false_imp_iff, not_true_eq_false, not_false_eq_true, jif0, jif1, jifb, ltT, ltF, leT, leF, eqT, eqF, jlt, jle, jeq, jlt0, jle0, jeq0, jge0, jgt0, jinB, jnat, clt, cle, ceq, cgt, cge, lI_add, lI_sub, lI_mul, jadd, jsub, jmul, jneg, jtol, b010, b011, pv_2t, Int.toNat_natCast, Option.some.injEq, exists_eq_left', if_true, if_false, show gRc 228 = 1 from rfl]
    exact q
theorem nsrnd {bt : Nat → Nat} {nm : Nat} (hp : btP bt nm) {a b c : Nat} (ha : a < nm) (hb : b < nm) (hc : c < nm) : (nsg bt a b ≠ 0 ∧ nsg bt b c = nsg bt a b ∧ nsg bt c a = nsg bt a b) ↔ (rnd bt a b c ∨ rnd bt c b a) := by
  have e : ∀ {x y : Nat}, x < nm → (bt x).testBit y = true → (bt y).testBit x = false := fun hx z => ((hp _ hx).2 _ z).2
  unfold nsg
  by_cases h1 : (bt a).testBit b = true
  · rw [if_pos h1]
    have h1' := e ha h1
    constructor
    · rintro ⟨-, x, y⟩
      have x' : (bt b).testBit c = true := by
        by_cases w : (bt b).testBit c = true
        · exact w
        · rw [if_neg w] at x
          split at x <;> omega
      have y' : (bt c).testBit a = true := by
        by_cases w : (bt c).testBit a = true
        · exact w
        · rw [if_neg w] at y
          split at y <;> omega
      exact Or.inl ⟨h1, x', y'⟩
    · rintro (⟨-, x, y⟩ | ⟨x, y, -⟩)
      · rw [if_pos x, if_pos y]
        exact ⟨by omega, rfl, rfl⟩
      · rw [y] at h1'
        cases h1'
  · rw [if_neg h1]
    by_cases h2 : (bt b).testBit a = true
    · rw [if_pos h2]
      constructor
      · rintro ⟨-, x, y⟩
        have x' : (bt c).testBit b = true := by
          by_cases w : (bt b).testBit c = true
          · rw [if_pos w] at x
            omega
          · rw [if_neg w] at x
            by_cases w2 : (bt c).testBit b = true
            · exact w2
            · rw [if_neg w2] at x
              omega
        have y' : (bt a).testBit c = true := by
          by_cases w : (bt c).testBit a = true
          · rw [if_pos w] at y
            omega
          · rw [if_neg w] at y
            by_cases w2 : (bt a).testBit c = true
            · exact w2
            · rw [if_neg w2] at y
              omega
        exact Or.inr ⟨x', h2, y'⟩
      · rintro (⟨x, -, -⟩ | ⟨x, y, z⟩)
        · exact absurd x h1
        · rw [if_neg (by rw [e hc x]; decide), if_pos x, if_neg (by rw [e ha z]; decide), if_pos z]
          exact ⟨by omega, rfl, rfl⟩
    · rw [if_neg h2]
      constructor
      · rintro ⟨x, -, -⟩
        exact absurd rfl x
      · rintro (⟨x, -, -⟩ | ⟨x, y, -⟩)
        · exact absurd x h1
        · exact absurd y h2
theorem t_M_threes {d : Nat} {h : Hp} {m nm : Nat} {bt : Nat → Nat} {Q : Nat → Option Value → Hp → Prop} (hm : mO h m) (hn : zI h (m + 7) 0 = iI nm) (hb : nm ≤ 12) (n : mtN h m nm bt) (hp : btP bt nm) (hq : ∀ g, mt0 h g m 0 → Q 0 (some (.int (iI (smN (fun a => smN (th2 bt nm a) nm) nm)))) g) : PR d m_M_threes [.ref m] h Q := by
  have M := hm.k
  show PW d 232 0 [some (.ref m), none, none, none, none, none] [] h Q
  refine vs_ok 7 ?_
  rw [show ((gRes 232).drop 0).take 7 = [.aload 0, .iconst 0, .putfield 12000, .iconst 0, .istore 1, .iconst 0, .istore 2] from rfl]
  simp (disch := omega) only [vs_iconst, vs_putfield, vs_aload0, vs_istore1n, vs_istore1i, vs_istore1r, vs_istore1l, vs_istore2n, vs_istore2i, vs_istore2r, vs_istore2l, vs_nil, gv_0, gv_1, gv_2, gv_3, pv_0, pv_1, va_rf_s, Nat.reduceDiv, Nat.reduceMod, Nat.reduceAdd, Nat.reduceMul, Int.reduceToNat, true_and, and_true, and_self, cP_eq, cP_ne, cP_lt, cP_ge, cP_gt, cP_le, eL_i, eL_l, eL_r, eL_n, Option.toList_none, Option.toList_some, List.nil_append, List.cons_append, kkI, llI, nnI, rrI, jjI, kkJ, llJ, nnJ, rrJ, iiJ, zIIs, zJJs, nEF, nET, and_false, false_and, jmin, jmax, catS_n, catS_i, catS_r, catS_l, Nat.reduceLeDiff, j1eq1, n21, jt0, jt1, Bool.false_eq_true, Classical.not_not, true_or, or_true, false_or, or_false, true_imp_iff, false_imp_iff, not_true_eq_false, not_false_eq_true, jif0, jif1, jifb, ltT, ltF, leT, leF, eqT, eqF, jlt, jle, jeq, jlt0, jle0, jeq0, jge0, jgt0, jinB, jnat, clt, cle, ceq, cgt, cge, lI_add, lI_sub, lI_mul, jadd, jsub, jmul, jneg, jtol, b010, b011, pv_2t, Int.toNat_natCast, Option.some.injEq, exists_eq_left', if_true, if_false, M]
  have z := mt0_s (h := h) (m := m) 0
  have q := hq _ z
  have hg := hm.fi z.1
  have ng := n.fi z.1 (by omega)
  have n7 : zI (zsI h m 0 (iI 0)) (m + 7) 0 = iI nm := by rw [zI_s, if_neg (by omega)]; exact hn
  generalize zsI h m 0 (iI 0) = g at *
  have M1 := hg.k
  have A := hg.nameMany
  have A8 := hg.net
  have lc : ∀ (a b t0 : Nat), a < b → b < nm → (∀ o4 o5, PW d 232 72 [some (.ref m), some (.int (iI ((t0 + smN (th3 bt a b) nm : Nat)))), some (.int (iI a)), some (.int (iI b)), o4, o5] [] g Q) → ∀ (k c : Nat) (o5 : Option Value), k + c = nm → b < c → PW d 232 27 [some (.ref m), some (.int (iI ((t0 + smN (th3 bt a b) c : Nat)))), some (.int (iI a)), some (.int (iI b)), some (.int (iI c)), o5] [] g Q := by
    intro a b t0 hab hbn K k
    induction k with
    | zero =>
      intro c o5 hc hbc
      have e : c = nm := by omega
      subst e
      refine vs_ok 6 ?_
      rw [show ((gRes 232).drop 27).take 6 = [.iload 4, .aload 0, .getfield 12112, .iconst 0, .iaload, .if_icmp .ge 72] from rfl]
      simp (disch := omega) only [vs_iconst, vs_if_icmp, vs_getfield, vs_iaload, vs_aload0, vs_iload4, vs_nil, gv_0, gv_1, gv_2, gv_3, pv_0, pv_1, va_rf_s, Nat.reduceDiv, Nat.reduceMod, Nat.reduceAdd, Nat.reduceMul, Int.reduceToNat, true_and, and_true, and_self, cP_eq, cP_ne, cP_lt, cP_ge, cP_gt, cP_le, eL_i, eL_l, eL_r, eL_n, Option.toList_none, Option.toList_some, List.nil_append, List.cons_append, kkI, llI, nnI, rrI, jjI, kkJ, llJ, nnJ, rrJ, iiJ, zIIs, zJJs, nEF, nET, and_false, false_and, jmin, jmax, catS_n, catS_i, catS_r, catS_l, Nat.reduceLeDiff, j1eq1, n21, jt0, jt1, Bool.false_eq_true, Classical.not_not, true_or, or_true, false_or, or_false, true_imp_iff, false_imp_iff, not_true_eq_false, not_false_eq_true, jif0, jif1, jifb, ltT, ltF, leT, leF, eqT, eqF, jlt, jle, jeq, jlt0, jle0, jeq0, jge0, jgt0, jinB, jnat, clt, cle, ceq, cgt, cge, lI_add, lI_sub, lI_mul, jadd, jsub, jmul, jneg, jtol, b010, b011, pv_2t, Int.toNat_natCast, Option.some.injEq, exists_eq_left', if_true, if_false, M1, A, n7]
      exact K _ _
    | succ k ih =>
      intro c o5 hc hbc
      have hcn : c < nm := by omega
      have e1 : (12 : Int) * (a : Int) + (b : Int) = ((12 * a + b : Nat) : Int) := by omega
      have e2 : (12 : Int) * (b : Int) + (c : Int) = ((12 * b + c : Nat) : Int) := by omega
      have e3 : (12 : Int) * (c : Int) + (a : Int) = ((12 * c + a : Nat) : Int) := by omega
      have v1 := ng a b (by omega) hbn
      have v2 := ng b c hbn hcn
      have v3 := ng c a hcn (by omega)
      have s1 := nsg_b bt a b
      have s2 := nsg_b bt b c
      have s3 := nsg_b bt c a
      have iff := nsrnd hp (show a < nm by omega) hbn hcn
      have go : ∀ (u : Nat), u = th3 bt a b c → PW d 232 68 [some (.ref m), some (.int (iI ((t0 + smN (th3 bt a b) c : Nat)))), some (.int (iI a)), some (.int (iI b)), some (.int (iI c)), some (.int (iI (nsg bt a b)))] [.int (iI u), .int (iI ((t0 + smN (th3 bt a b) c : Nat)))] g Q := fun u hu => by
        refine vs_ok 4 ?_
        rw [show ((gRes 232).drop 68).take 4 = [.iadd, .istore 1, .iinc 4 1, .goto 27] from rfl]
        simp (disch := omega) only [vs_iadd, vs_goto, vs_istore1n, vs_istore1i, vs_istore1r, vs_istore1l, vs_iinc4n, vs_iinc4i, vs_iinc4r, vs_iinc4l, vs_nil, gv_0, gv_1, gv_2, gv_3, pv_0, pv_1, va_rf_s, Nat.reduceDiv, Nat.reduceMod, Nat.reduceAdd, Nat.reduceMul, Int.reduceToNat, true_and, and_true, and_self, cP_eq, cP_ne, cP_lt, cP_ge, cP_gt, cP_le, eL_i, eL_l, eL_r, eL_n, Option.toList_none, Option.toList_some, List.nil_append, List.cons_append, kkI, llI, nnI, rrI, jjI, kkJ, llJ, nnJ, rrJ, iiJ, zIIs, zJJs, nEF, nET, and_false, false_and, jmin, jmax, catS_n, catS_i, catS_r, catS_l, Nat.reduceLeDiff, j1eq1, n21, jt0, jt1, Bool.false_eq_true, Classical.not_not, true_or, or_true, false_or, or_false, true_imp_iff, false_imp_iff, not_true_eq_false, not_false_eq_true, jif0, jif1, jifb, ltT, ltF, leT, leF, eqT, eqF, jlt, jle, jeq, jlt0, jle0, jeq0, jge0, jgt0, jinB, jnat, clt, cle, ceq, cgt, cge, lI_add, lI_sub, lI_mul, jadd, jsub, jmul, jneg, jtol, b010, b011, pv_2t, Int.toNat_natCast, Option.some.injEq, exists_eq_left', if_true, if_false]
        have := ih (c + 1) (some (.int (iI (nsg bt a b)))) (by omega) (by omega)
        rw [show t0 + smN (th3 bt a b) (c + 1) = t0 + smN (th3 bt a b) c + u by rw [hu]; exact (Nat.add_assoc _ _ _).symm] at this
        exact this
      have zero : ¬ (nsg bt a b ≠ 0 ∧ nsg bt b c = nsg bt a b ∧ nsg bt c a = nsg bt a b) → PW d 232 67 [some (.ref m), some (.int (iI ((t0 + smN (th3 bt a b) c : Nat)))), some (.int (iI a)), some (.int (iI b)), some (.int (iI c)), some (.int (iI (nsg bt a b)))] [.int (iI ((t0 + smN (th3 bt a b) c : Nat)))] g Q := fun w => by
        refine vs_ok 1 ?_
        rw [show ((gRes 232).drop 67).take 1 = [.iconst 0] from rfl]
        simp (disch := omega) only [vs_iconst, vs_nil, gv_0, gv_1, gv_2, gv_3, pv_0, pv_1, va_rf_s, Nat.reduceDiv, Nat.reduceMod, Nat.reduceAdd, Nat.reduceMul, Int.reduceToNat, true_and, and_true, and_self, cP_eq, cP_ne, cP_lt, cP_ge, cP_gt, cP_le, eL_i, eL_l, eL_r, eL_n, Option.toList_none, Option.toList_some, List.nil_append, List.cons_append, kkI, llI, nnI, rrI, jjI, kkJ, llJ, nnJ, rrJ, iiJ, zIIs, zJJs, nEF, nET, and_false, false_and, jmin, jmax, catS_n, catS_i, catS_r, catS_l, Nat.reduceLeDiff, j1eq1, n21, jt0, jt1, Bool.false_eq_true, Classical.not_not, true_or, or_true, false_or, or_false, true_imp_iff, false_imp_iff, not_true_eq_false, not_false_eq_true, jif0, jif1, jifb, ltT, ltF, leT, leF, eqT, eqF, jlt, jle, jeq, jlt0, jle0, jeq0, jge0, jgt0, jinB, jnat, clt, cle, ceq, cgt, cge, lI_add, lI_sub, lI_mul, jadd, jsub, jmul, jneg, jtol, b010, b011, pv_2t, Int.toNat_natCast, Option.some.injEq, exists_eq_left', if_true, if_false]
        exact go 0 (if_neg fun y => w (iff.mpr y.2.2)).symm
      refine vs_ok 6 ?_
      rw [show ((gRes 232).drop 27).take 6 = [.iload 4, .aload 0, .getfield 12112, .iconst 0, .iaload, .if_icmp .ge 72] from rfl]
      simp (disch := omega) only [vs_iconst, vs_if_icmp, vs_getfield, vs_iaload, vs_aload0, vs_iload4, vs_nil, gv_0, gv_1, gv_2, gv_3, pv_0, pv_1, va_rf_s, Nat.reduceDiv, Nat.reduceMod, Nat.reduceAdd, Nat.reduceMul, Int.reduceToNat, true_and, and_true, and_self, cP_eq, cP_ne, cP_lt, cP_ge, cP_gt, cP_le, eL_i, eL_l, eL_r, eL_n, Option.toList_none, Option.toList_some, List.nil_append, List.cons_append, kkI, llI, nnI, rrI, jjI, kkJ, llJ, nnJ, rrJ, iiJ, zIIs, zJJs, nEF, nET, and_false, false_and, jmin, jmax, catS_n, catS_i, catS_r, catS_l, Nat.reduceLeDiff, j1eq1, n21, jt0, jt1, Bool.false_eq_true, Classical.not_not, true_or, or_true, false_or, or_false, true_imp_iff, false_imp_iff, not_true_eq_false, not_false_eq_true, jif0, jif1, jifb, ltT, ltF, leT, leF, eqT, eqF, jlt, jle, jeq, jlt0, jle0, jeq0, jge0, jgt0, jinB, jnat, clt, cle, ceq, cgt, cge, lI_add, lI_sub, lI_mul, jadd, jsub, jmul, jneg, jtol, b010, b011, pv_2t, Int.toNat_natCast, Option.some.injEq, exists_eq_left', if_true, if_false, M1, A, n7]
      by_cases c1 : nsg bt a b = 0
      · refine vs_ok 12 ?_
        rw [show ((gRes 232).drop 33).take 12 = [.aload 0, .getfield 12122, .iconst 12, .iload 2, .imul, .iload 3, .iadd, .iaload, .istore 5, .iload 1, .iload 5, .ifCond .eq 67] from rfl]
        simp (disch := omega) only [vs_iadd, vs_imul, vs_iconst, vs_ifCond, vs_getfield, vs_iaload, vs_aload0, vs_iload1, vs_iload2, vs_iload3, vs_iload5, vs_istore5n, vs_istore5i, vs_istore5r, vs_istore5l, vs_nil, gv_0, gv_1, gv_2, gv_3, pv_0, pv_1, va_rf_s, Nat.reduceDiv, Nat.reduceMod, Nat.reduceAdd, Nat.reduceMul, Int.reduceToNat, true_and, and_true, and_self, cP_eq, cP_ne, cP_lt, cP_ge, cP_gt, cP_le, eL_i, eL_l, eL_r, eL_n, Option.toList_none, Option.toList_some, List.nil_append, List.cons_append, kkI, llI, nnI, rrI, jjI, kkJ, llJ, nnJ, rrJ, iiJ, zIIs, zJJs, nEF, nET, and_false, false_and, jmin, jmax, catS_n, catS_i, catS_r, catS_l, Nat.reduceLeDiff, j1eq1, n21, jt0, jt1, Bool.false_eq_true, Classical.not_not, true_or, or_true, false_or, or_false, true_imp_iff, false_imp_iff, not_true_eq_false, not_false_eq_true, jif0, jif1, jifb, ltT, ltF, leT, leF, eqT, eqF, jlt, jle, jeq, jlt0, jle0, jeq0, jge0, jgt0, jinB, jnat, clt, cle, ceq, cgt, cge, lI_add, lI_sub, lI_mul, jadd, jsub, jmul, jneg, jtol, b010, b011, pv_2t, Int.toNat_natCast, Option.some.injEq, exists_eq_left', if_true, if_false, M1, A8, e1, v1, c1]
        rw [c1] at zero
        exact zero fun w => w.1 rfl
      by_cases c2 : nsg bt b c = nsg bt a b
      · by_cases c3 : nsg bt c a = nsg bt a b
        · refine vs_ok 12 ?_
          rw [show ((gRes 232).drop 33).take 12 = [.aload 0, .getfield 12122, .iconst 12, .iload 2, .imul, .iload 3, .iadd, .iaload, .istore 5, .iload 1, .iload 5, .ifCond .eq 67] from rfl]
          simp (disch := omega) only [vs_iadd, vs_imul, vs_iconst, vs_ifCond, vs_getfield, vs_iaload, vs_aload0, vs_iload1, vs_iload2, vs_iload3, vs_iload5, vs_istore5n, vs_istore5i, vs_istore5r, vs_istore5l, vs_nil, gv_0, gv_1, gv_2, gv_3, pv_0, pv_1, va_rf_s, Nat.reduceDiv, Nat.reduceMod, Nat.reduceAdd, Nat.reduceMul, Int.reduceToNat, true_and, and_true, and_self, cP_eq, cP_ne, cP_lt, cP_ge, cP_gt, cP_le, eL_i, eL_l, eL_r, eL_n, Option.toList_none, Option.toList_some, List.nil_append, List.cons_append, kkI, llI, nnI, rrI, jjI, kkJ, llJ, nnJ, rrJ, iiJ, zIIs, zJJs, nEF, nET, and_false, false_and, jmin, jmax, catS_n, catS_i, catS_r, catS_l, Nat.reduceLeDiff, j1eq1, n21, jt0, jt1, Bool.false_eq_true, Classical.not_not, true_or, or_true, false_or, or_false, true_imp_iff, false_imp_iff, not_true_eq_false, not_false_eq_true, jif0, jif1, jifb, ltT, ltF, leT, leF, eqT, eqF, jlt, jle, jeq, jlt0, jle0, jeq0, jge0, jgt0, jinB, jnat, clt, cle, ceq, cgt, cge, lI_add, lI_sub, lI_mul, jadd, jsub, jmul, jneg, jtol, b010, b011, pv_2t, Int.toNat_natCast, Option.some.injEq, exists_eq_left', if_true, if_false, M1, A8, e1, v1]
          refine vs_ok 10 ?_
          rw [show ((gRes 232).drop 45).take 10 = [.aload 0, .getfield 12122, .iconst 12, .iload 3, .imul, .iload 4, .iadd, .iaload, .iload 5, .if_icmp .ne 67] from rfl]
          simp (disch := omega) only [vs_iadd, vs_imul, vs_iconst, vs_if_icmp, vs_getfield, vs_iaload, vs_aload0, vs_iload3, vs_iload4, vs_iload5, vs_nil, gv_0, gv_1, gv_2, gv_3, pv_0, pv_1, va_rf_s, Nat.reduceDiv, Nat.reduceMod, Nat.reduceAdd, Nat.reduceMul, Int.reduceToNat, true_and, and_true, and_self, cP_eq, cP_ne, cP_lt, cP_ge, cP_gt, cP_le, eL_i, eL_l, eL_r, eL_n, Option.toList_none, Option.toList_some, List.nil_append, List.cons_append, kkI, llI, nnI, rrI, jjI, kkJ, llJ, nnJ, rrJ, iiJ, zIIs, zJJs, nEF, nET, and_false, false_and, jmin, jmax, catS_n, catS_i, catS_r, catS_l, Nat.reduceLeDiff, j1eq1, n21, jt0, jt1, Bool.false_eq_true, Classical.not_not, true_or, or_true, false_or, or_false, true_imp_iff, false_imp_iff, not_true_eq_false, not_false_eq_true, jif0, jif1, jifb, ltT, ltF, leT, leF, eqT, eqF, jlt, jle, jeq, jlt0, jle0, jeq0, jge0, jgt0, jinB, jnat, clt, cle, ceq, cgt, cge, lI_add, lI_sub, lI_mul, jadd, jsub, jmul, jneg, jtol, b010, b011, pv_2t, Int.toNat_natCast, Option.some.injEq, exists_eq_left', if_true, if_false, M1, A8, e2, v2, c2]
          refine vs_ok 10 ?_
          rw [show ((gRes 232).drop 55).take 10 = [.aload 0, .getfield 12122, .iconst 12, .iload 4, .imul, .iload 2, .iadd, .iaload, .iload 5, .if_icmp .ne 67] from rfl]
          simp (disch := omega) only [vs_iadd, vs_imul, vs_iconst, vs_if_icmp, vs_getfield, vs_iaload, vs_aload0, vs_iload2, vs_iload4, vs_iload5, vs_nil, gv_0, gv_1, gv_2, gv_3, pv_0, pv_1, va_rf_s, Nat.reduceDiv, Nat.reduceMod, Nat.reduceAdd, Nat.reduceMul, Int.reduceToNat, true_and, and_true, and_self, cP_eq, cP_ne, cP_lt, cP_ge, cP_gt, cP_le, eL_i, eL_l, eL_r, eL_n, Option.toList_none, Option.toList_some, List.nil_append, List.cons_append, kkI, llI, nnI, rrI, jjI, kkJ, llJ, nnJ, rrJ, iiJ, zIIs, zJJs, nEF, nET, and_false, false_and, jmin, jmax, catS_n, catS_i, catS_r, catS_l, Nat.reduceLeDiff, j1eq1, n21, jt0, jt1, Bool.false_eq_true, Classical.not_not, true_or, or_true, false_or, or_false, true_imp_iff, false_imp_iff, not_true_eq_false, not_false_eq_true, jif0, jif1, jifb, ltT, ltF, leT, leF, eqT, eqF, jlt, jle, jeq, jlt0, jle0, jeq0, jge0, jgt0, jinB, jnat, clt, cle, ceq, cgt, cge, lI_add, lI_sub, lI_mul, jadd, jsub, jmul, jneg, jtol, b010, b011, pv_2t, Int.toNat_natCast, Option.some.injEq, exists_eq_left', if_true, if_false, M1, A8, e3, v3, c3]
          refine vs_ok 2 ?_
          rw [show ((gRes 232).drop 65).take 2 = [.iconst 1, .goto 68] from rfl]
          simp (disch := omega) only [vs_iconst, vs_goto, vs_nil, gv_0, gv_1, gv_2, gv_3, pv_0, pv_1, va_rf_s, Nat.reduceDiv, Nat.reduceMod, Nat.reduceAdd, Nat.reduceMul, Int.reduceToNat, true_and, and_true, and_self, cP_eq, cP_ne, cP_lt, cP_ge, cP_gt, cP_le, eL_i, eL_l, eL_r, eL_n, Option.toList_none, Option.toList_some, List.nil_append, List.cons_append, kkI, llI, nnI, rrI, jjI, kkJ, llJ, nnJ, rrJ, iiJ, zIIs, zJJs, nEF, nET, and_false, false_and, jmin, jmax, catS_n, catS_i, catS_r, catS_l, Nat.reduceLeDiff, j1eq1, n21, jt0, jt1, Bool.false_eq_true, Classical.not_not, true_or, or_true, false_or, or_false, true_imp_iff, false_imp_iff, not_true_eq_false, not_false_eq_true, jif0, jif1, jifb, ltT, ltF, leT, leF, eqT, eqF, jlt, jle, jeq, jlt0, jle0, jeq0, jge0, jgt0, jinB, jnat, clt, cle, ceq, cgt, cge, lI_add, lI_sub, lI_mul, jadd, jsub, jmul, jneg, jtol, b010, b011, pv_2t, Int.toNat_natCast, Option.some.injEq, exists_eq_left', if_true, if_false]
          exact go 1 (if_pos ⟨hab, hbc, iff.mp ⟨c1, c2, c3⟩⟩).symm
        · refine vs_ok 12 ?_
          rw [show ((gRes 232).drop 33).take 12 = [.aload 0, .getfield 12122, .iconst 12, .iload 2, .imul, .iload 3, .iadd, .iaload, .istore 5, .iload 1, .iload 5, .ifCond .eq 67] from rfl]
          simp (disch := omega) only [vs_iadd, vs_imul, vs_iconst, vs_ifCond, vs_getfield, vs_iaload, vs_aload0, vs_iload1, vs_iload2, vs_iload3, vs_iload5, vs_istore5n, vs_istore5i, vs_istore5r, vs_istore5l, vs_nil, gv_0, gv_1, gv_2, gv_3, pv_0, pv_1, va_rf_s, Nat.reduceDiv, Nat.reduceMod, Nat.reduceAdd, Nat.reduceMul, Int.reduceToNat, true_and, and_true, and_self, cP_eq, cP_ne, cP_lt, cP_ge, cP_gt, cP_le, eL_i, eL_l, eL_r, eL_n, Option.toList_none, Option.toList_some, List.nil_append, List.cons_append, kkI, llI, nnI, rrI, jjI, kkJ, llJ, nnJ, rrJ, iiJ, zIIs, zJJs, nEF, nET, and_false, false_and, jmin, jmax, catS_n, catS_i, catS_r, catS_l, Nat.reduceLeDiff, j1eq1, n21, jt0, jt1, Bool.false_eq_true, Classical.not_not, true_or, or_true, false_or, or_false, true_imp_iff, false_imp_iff, not_true_eq_false, not_false_eq_true, jif0, jif1, jifb, ltT, ltF, leT, leF, eqT, eqF, jlt, jle, jeq, jlt0, jle0, jeq0, jge0, jgt0, jinB, jnat, clt, cle, ceq, cgt, cge, lI_add, lI_sub, lI_mul, jadd, jsub, jmul, jneg, jtol, b010, b011, pv_2t, Int.toNat_natCast, Option.some.injEq, exists_eq_left', if_true, if_false, M1, A8, e1, v1]
          refine vs_ok 10 ?_
          rw [show ((gRes 232).drop 45).take 10 = [.aload 0, .getfield 12122, .iconst 12, .iload 3, .imul, .iload 4, .iadd, .iaload, .iload 5, .if_icmp .ne 67] from rfl]
          simp (disch := omega) only [vs_iadd, vs_imul, vs_iconst, vs_if_icmp, vs_getfield, vs_iaload, vs_aload0, vs_iload3, vs_iload4, vs_iload5, vs_nil, gv_0, gv_1, gv_2, gv_3, pv_0, pv_1, va_rf_s, Nat.reduceDiv, Nat.reduceMod, Nat.reduceAdd, Nat.reduceMul, Int.reduceToNat, true_and, and_true, and_self, cP_eq, cP_ne, cP_lt, cP_ge, cP_gt, cP_le, eL_i, eL_l, eL_r, eL_n, Option.toList_none, Option.toList_some, List.nil_append, List.cons_append, kkI, llI, nnI, rrI, jjI, kkJ, llJ, nnJ, rrJ, iiJ, zIIs, zJJs, nEF, nET, and_false, false_and, jmin, jmax, catS_n, catS_i, catS_r, catS_l, Nat.reduceLeDiff, j1eq1, n21, jt0, jt1, Bool.false_eq_true, Classical.not_not, true_or, or_true, false_or, or_false, true_imp_iff, false_imp_iff, not_true_eq_false, not_false_eq_true, jif0, jif1, jifb, ltT, ltF, leT, leF, eqT, eqF, jlt, jle, jeq, jlt0, jle0, jeq0, jge0, jgt0, jinB, jnat, clt, cle, ceq, cgt, cge, lI_add, lI_sub, lI_mul, jadd, jsub, jmul, jneg, jtol, b010, b011, pv_2t, Int.toNat_natCast, Option.some.injEq, exists_eq_left', if_true, if_false, M1, A8, e2, v2, c2]
          refine vs_ok 10 ?_
          rw [show ((gRes 232).drop 55).take 10 = [.aload 0, .getfield 12122, .iconst 12, .iload 4, .imul, .iload 2, .iadd, .iaload, .iload 5, .if_icmp .ne 67] from rfl]
          simp (disch := omega) only [vs_iadd, vs_imul, vs_iconst, vs_if_icmp, vs_getfield, vs_iaload, vs_aload0, vs_iload2, vs_iload4, vs_iload5, vs_nil, gv_0, gv_1, gv_2, gv_3, pv_0, pv_1, va_rf_s, Nat.reduceDiv, Nat.reduceMod, Nat.reduceAdd, Nat.reduceMul, Int.reduceToNat, true_and, and_true, and_self, cP_eq, cP_ne, cP_lt, cP_ge, cP_gt, cP_le, eL_i, eL_l, eL_r, eL_n, Option.toList_none, Option.toList_some, List.nil_append, List.cons_append, kkI, llI, nnI, rrI, jjI, kkJ, llJ, nnJ, rrJ, iiJ, zIIs, zJJs, nEF, nET, and_false, false_and, jmin, jmax, catS_n, catS_i, catS_r, catS_l, Nat.reduceLeDiff, j1eq1, n21, jt0, jt1, Bool.false_eq_true, Classical.not_not, true_or, or_true, false_or, or_false, true_imp_iff, false_imp_iff, not_true_eq_false, not_false_eq_true, jif0, jif1, jifb, ltT, ltF, leT, leF, eqT, eqF, jlt, jle, jeq, jlt0, jle0, jeq0, jge0, jgt0, jinB, jnat, clt, cle, ceq, cgt, cge, lI_add, lI_sub, lI_mul, jadd, jsub, jmul, jneg, jtol, b010, b011, pv_2t, Int.toNat_natCast, Option.some.injEq, exists_eq_left', if_true, if_false, M1, A8, e3, v3]
          exact zero fun w => c3 w.2.2
      · refine vs_ok 12 ?_
        rw [show ((gRes 232).drop 33).take 12 = [.aload 0, .getfield 12122, .iconst 12, .iload 2, .imul, .iload 3, .iadd, .iaload, .istore 5, .iload 1, .iload 5, .ifCond .eq 67] from rfl]
        simp (disch := omega) only [vs_iadd, vs_imul, vs_iconst, vs_ifCond, vs_getfield, vs_iaload, vs_aload0, vs_iload1, vs_iload2, vs_iload3, vs_iload5, vs_istore5n, vs_istore5i, vs_istore5r, vs_istore5l, vs_nil, gv_0, gv_1, gv_2, gv_3, pv_0, pv_1, va_rf_s, Nat.reduceDiv, Nat.reduceMod, Nat.reduceAdd, Nat.reduceMul, Int.reduceToNat, true_and, and_true, and_self, cP_eq, cP_ne, cP_lt, cP_ge, cP_gt, cP_le, eL_i, eL_l, eL_r, eL_n, Option.toList_none, Option.toList_some, List.nil_append, List.cons_append, kkI, llI, nnI, rrI, jjI, kkJ, llJ, nnJ, rrJ, iiJ, zIIs, zJJs, nEF, nET, and_false, false_and, jmin, jmax, catS_n, catS_i, catS_r, catS_l, Nat.reduceLeDiff, j1eq1, n21, jt0, jt1, Bool.false_eq_true, Classical.not_not, true_or, or_true, false_or, or_false, true_imp_iff, false_imp_iff, not_true_eq_false, not_false_eq_true, jif0, jif1, jifb, ltT, ltF, leT, leF, eqT, eqF, jlt, jle, jeq, jlt0, jle0, jeq0, jge0, jgt0, jinB, jnat, clt, cle, ceq, cgt, cge, lI_add, lI_sub, lI_mul, jadd, jsub, jmul, jneg, jtol, b010, b011, pv_2t, Int.toNat_natCast, Option.some.injEq, exists_eq_left', if_true, if_false, M1, A8, e1, v1]
        refine vs_ok 10 ?_
        rw [show ((gRes 232).drop 45).take 10 = [.aload 0, .getfield 12122, .iconst 12, .iload 3, .imul, .iload 4, .iadd, .iaload, .iload 5, .if_icmp .ne 67] from rfl]
        simp (disch := omega) only [vs_iadd, vs_imul, vs_iconst, vs_if_icmp, vs_getfield, vs_iaload, vs_aload0, vs_iload3, vs_iload4, vs_iload5, vs_nil, gv_0, gv_1, gv_2, gv_3, pv_0, pv_1, va_rf_s, Nat.reduceDiv, Nat.reduceMod, Nat.reduceAdd, Nat.reduceMul, Int.reduceToNat, true_and, and_true, and_self, cP_eq, cP_ne, cP_lt, cP_ge, cP_gt, cP_le, eL_i, eL_l, eL_r, eL_n, Option.toList_none, Option.toList_some, List.nil_append, List.cons_append, kkI, llI, nnI, rrI, jjI, kkJ, llJ, nnJ, rrJ, iiJ, zIIs, zJJs, nEF, nET, and_false, false_and, jmin, jmax, catS_n, catS_i, catS_r, catS_l, Nat.reduceLeDiff, j1eq1, n21, jt0, jt1, Bool.false_eq_true, Classical.not_not, true_or, or_true, false_or, or_false, true_imp_iff, false_imp_iff, not_true_eq_false, not_false_eq_true, jif0, jif1, jifb, ltT, ltF, leT, leF, eqT, eqF, jlt, jle, jeq, jlt0, jle0, jeq0, jge0, jgt0, jinB, jnat, clt, cle, ceq, cgt, cge, lI_add, lI_sub, lI_mul, jadd, jsub, jmul, jneg, jtol, b010, b011, pv_2t, Int.toNat_natCast, Option.some.injEq, exists_eq_left', if_true, if_false, M1, A8, e2, v2]
        exact zero fun w => c2 w.2.1
  have lb : ∀ (a t0 : Nat), a < nm → (∀ o3 o4 o5, PW d 232 74 [some (.ref m), some (.int (iI ((t0 + smN (th2 bt nm a) nm : Nat)))), some (.int (iI a)), o3, o4, o5] [] g Q) → ∀ (k b : Nat) (o4 o5 : Option Value), k + b = nm → a < b → PW d 232 17 [some (.ref m), some (.int (iI ((t0 + smN (th2 bt nm a) b : Nat)))), some (.int (iI a)), some (.int (iI b)), o4, o5] [] g Q := by
    intro a t0 ha K k
    induction k with
    | zero =>
      intro b o4 o5 hb2 hab
      have e : b = nm := by omega
      subst e
      refine vs_ok 6 ?_
      rw [show ((gRes 232).drop 17).take 6 = [.iload 3, .aload 0, .getfield 12112, .iconst 0, .iaload, .if_icmp .ge 74] from rfl]
      simp (disch := omega) only [vs_iconst, vs_if_icmp, vs_getfield, vs_iaload, vs_aload0, vs_iload3, vs_nil, gv_0, gv_1, gv_2, gv_3, pv_0, pv_1, va_rf_s, Nat.reduceDiv, Nat.reduceMod, Nat.reduceAdd, Nat.reduceMul, Int.reduceToNat, true_and, and_true, and_self, cP_eq, cP_ne, cP_lt, cP_ge, cP_gt, cP_le, eL_i, eL_l, eL_r, eL_n, Option.toList_none, Option.toList_some, List.nil_append, List.cons_append, kkI, llI, nnI, rrI, jjI, kkJ, llJ, nnJ, rrJ, iiJ, zIIs, zJJs, nEF, nET, and_false, false_and, jmin, jmax, catS_n, catS_i, catS_r, catS_l, Nat.reduceLeDiff, j1eq1, n21, jt0, jt1, Bool.false_eq_true, Classical.not_not, true_or, or_true, false_or, or_false, true_imp_iff, false_imp_iff, not_true_eq_false, not_false_eq_true, jif0, jif1, jifb, ltT, ltF, leT, leF, eqT, eqF, jlt, jle, jeq, jlt0, jle0, jeq0, jge0, jgt0, jinB, jnat, clt, cle, ceq, cgt, cge, lI_add, lI_sub, lI_mul, jadd, jsub, jmul, jneg, jtol, b010, b011, pv_2t, Int.toNat_natCast, Option.some.injEq, exists_eq_left', if_true, if_false, M1, A, n7]
      exact K _ _ _
    | succ k ih =>
      intro b o4 o5 hb2 hab
      refine vs_ok 6 ?_
      rw [show ((gRes 232).drop 17).take 6 = [.iload 3, .aload 0, .getfield 12112, .iconst 0, .iaload, .if_icmp .ge 74] from rfl]
      simp (disch := omega) only [vs_iconst, vs_if_icmp, vs_getfield, vs_iaload, vs_aload0, vs_iload3, vs_nil, gv_0, gv_1, gv_2, gv_3, pv_0, pv_1, va_rf_s, Nat.reduceDiv, Nat.reduceMod, Nat.reduceAdd, Nat.reduceMul, Int.reduceToNat, true_and, and_true, and_self, cP_eq, cP_ne, cP_lt, cP_ge, cP_gt, cP_le, eL_i, eL_l, eL_r, eL_n, Option.toList_none, Option.toList_some, List.nil_append, List.cons_append, kkI, llI, nnI, rrI, jjI, kkJ, llJ, nnJ, rrJ, iiJ, zIIs, zJJs, nEF, nET, and_false, false_and, jmin, jmax, catS_n, catS_i, catS_r, catS_l, Nat.reduceLeDiff, j1eq1, n21, jt0, jt1, Bool.false_eq_true, Classical.not_not, true_or, or_true, false_or, or_false, true_imp_iff, false_imp_iff, not_true_eq_false, not_false_eq_true, jif0, jif1, jifb, ltT, ltF, leT, leF, eqT, eqF, jlt, jle, jeq, jlt0, jle0, jeq0, jge0, jgt0, jinB, jnat, clt, cle, ceq, cgt, cge, lI_add, lI_sub, lI_mul, jadd, jsub, jmul, jneg, jtol, b010, b011, pv_2t, Int.toNat_natCast, Option.some.injEq, exists_eq_left', if_true, if_false, M1, A, n7]
      refine vs_ok 4 ?_
      rw [show ((gRes 232).drop 23).take 4 = [.iload 3, .iconst 1, .iadd, .istore 4] from rfl]
      simp (disch := omega) only [vs_iadd, vs_iconst, vs_iload3, vs_istore4n, vs_istore4i, vs_istore4r, vs_istore4l, vs_nil, gv_0, gv_1, gv_2, gv_3, pv_0, pv_1, va_rf_s, Nat.reduceDiv, Nat.reduceMod, Nat.reduceAdd, Nat.reduceMul, Int.reduceToNat, true_and, and_true, and_self, cP_eq, cP_ne, cP_lt, cP_ge, cP_gt, cP_le, eL_i, eL_l, eL_r, eL_n, Option.toList_none, Option.toList_some, List.nil_append, List.cons_append, kkI, llI, nnI, rrI, jjI, kkJ, llJ, nnJ, rrJ, iiJ, zIIs, zJJs, nEF, nET, and_false, false_and, jmin, jmax, catS_n, catS_i, catS_r, catS_l, Nat.reduceLeDiff, j1eq1, n21, jt0, jt1, Bool.false_eq_true, Classical.not_not, true_or, or_true, false_or, or_false, true_imp_iff, false_imp_iff, not_true_eq_false, not_false_eq_true, jif0, jif1, jifb, ltT, ltF, leT, leF, eqT, eqF, jlt, jle, jeq, jlt0, jle0, jeq0, jge0, jgt0, jinB, jnat, clt, cle, ceq, cgt, cge, lI_add, lI_sub, lI_mul, jadd, jsub, jmul, jneg, jtol, b010, b011, pv_2t, Int.toNat_natCast, Option.some.injEq, exists_eq_left', if_true, if_false]
      have e0 : smN (th3 bt a b) (b + 1) = 0 := smN_zero _ fun i hi => if_neg fun z => by omega
      have := lc a b (t0 + smN (th2 bt nm a) b) hab (by omega) (fun o4 o5 => by
        refine vs_ok 2 ?_
        rw [show ((gRes 232).drop 72).take 2 = [.iinc 3 1, .goto 17] from rfl]
        simp (disch := omega) only [vs_goto, vs_iinc3n, vs_iinc3i, vs_iinc3r, vs_iinc3l, vs_nil, gv_0, gv_1, gv_2, gv_3, pv_0, pv_1, va_rf_s, Nat.reduceDiv, Nat.reduceMod, Nat.reduceAdd, Nat.reduceMul, Int.reduceToNat, true_and, and_true, and_self, cP_eq, cP_ne, cP_lt, cP_ge, cP_gt, cP_le, eL_i, eL_l, eL_r, eL_n, Option.toList_none, Option.toList_some, List.nil_append, List.cons_append, kkI, llI, nnI, rrI, jjI, kkJ, llJ, nnJ, rrJ, iiJ, zIIs, zJJs, nEF, nET, and_false, false_and, jmin, jmax, catS_n, catS_i, catS_r, catS_l, Nat.reduceLeDiff, j1eq1, n21, jt0, jt1, Bool.false_eq_true, Classical.not_not, true_or, or_true, false_or, or_false, true_imp_iff, false_imp_iff, not_true_eq_false, not_false_eq_true, jif0, jif1, jifb, ltT, ltF, leT, leF, eqT, eqF, jlt, jle, jeq, jlt0, jle0, jeq0, jge0, jgt0, jinB, jnat, clt, cle, ceq, cgt, cge, lI_add, lI_sub, lI_mul, jadd, jsub, jmul, jneg, jtol, b010, b011, pv_2t, Int.toNat_natCast, Option.some.injEq, exists_eq_left', if_true, if_false]
        have := ih (b + 1) o4 o5 (by omega) (by omega)
        rw [show t0 + smN (th2 bt nm a) (b + 1) = t0 + smN (th2 bt nm a) b + smN (th3 bt a b) nm by
          show t0 + (smN (th2 bt nm a) b + th2 bt nm a b) = _
          rw [show th2 bt nm a b = smN (th3 bt a b) nm from if_pos hab]
          omega] at this
        exact this) (nm - (b + 1)) (b + 1) o5 (by omega) (by omega)
      rw [e0, Nat.add_zero] at this
      exact this
  have la : ∀ (k a : Nat) (o3 o4 o5 : Option Value), k + a = nm → PW d 232 7 [some (.ref m), some (.int (iI ((smN (fun a => smN (th2 bt nm a) nm) a : Nat)))), some (.int (iI a)), o3, o4, o5] [] g Q := by
    intro k
    induction k with
    | zero =>
      intro a o3 o4 o5 hk
      have e : a = nm := by omega
      subst e
      refine vs_ok 6 ?_
      rw [show ((gRes 232).drop 7).take 6 = [.iload 2, .aload 0, .getfield 12112, .iconst 0, .iaload, .if_icmp .ge 76] from rfl]
      simp (disch := omega) only [vs_iconst, vs_if_icmp, vs_getfield, vs_iaload, vs_aload0, vs_iload2, vs_nil, gv_0, gv_1, gv_2, gv_3, pv_0, pv_1, va_rf_s, Nat.reduceDiv, Nat.reduceMod, Nat.reduceAdd, Nat.reduceMul, Int.reduceToNat, true_and, and_true, and_self, cP_eq, cP_ne, cP_lt, cP_ge, cP_gt, cP_le, eL_i, eL_l, eL_r, eL_n, Option.toList_none, Option.toList_some, List.nil_append, List.cons_append, kkI, llI, nnI, rrI, jjI, kkJ, llJ, nnJ, rrJ, iiJ, zIIs, zJJs, nEF, nET, and_false, false_and, jmin, jmax, catS_n, catS_i, catS_r, catS_l, Nat.reduceLeDiff, j1eq1, n21, jt0, jt1, Bool.false_eq_true, Classical.not_not, true_or, or_true, false_or, or_false, true_imp_iff, false_imp_iff, not_true_eq_false, not_false_eq_true, jif0, jif1, jifb, ltT, ltF, leT, leF, eqT, eqF, jlt, jle, jeq, jlt0, jle0, jeq0, jge0, jgt0, jinB, jnat, clt, cle, ceq, cgt, cge, lI_add, lI_sub, lI_mul, jadd, jsub, jmul, jneg, jtol, b010, b011, pv_2t, Int.toNat_natCast, Option.some.injEq, exists_eq_left', if_true, if_false, M1, A, n7]
      refine vs_ok 2 ?_
      rw [show ((gRes 232).drop 76).take 2 = [.iload 1, .ireturn] from rfl]
      simp (disch := omega) only [vs_ireturn, vs_iload1, vs_nil, gv_0, gv_1, gv_2, gv_3, pv_0, pv_1, va_rf_s, Nat.reduceDiv, Nat.reduceMod, Nat.reduceAdd, Nat.reduceMul, Int.reduceToNat, true_and, and_true, and_self, cP_eq, cP_ne, cP_lt, cP_ge, cP_gt, cP_le, eL_i, eL_l, eL_r, eL_n, Option.toList_none, Option.toList_some, List.nil_append, List.cons_append, kkI, llI, nnI, rrI, jjI, kkJ, llJ, nnJ, rrJ, iiJ, zIIs, zJJs, nEF, nET, and_false, false_and, jmin, jmax, catS_n, catS_i, catS_r, catS_l, Nat.reduceLeDiff, j1eq1, n21, jt0, jt1, Bool.false_eq_true, Classical.not_not, true_or, or_true, false_or, or_false, true_imp_iff, false_imp_iff, not_true_eq_false, not_false_eq_true, jif0, jif1, jifb, ltT, ltF, leT, leF, eqT, eqF, jlt, jle, jeq, jlt0, jle0, jeq0, jge0, jgt0, jinB, jnat, clt, cle, ceq, cgt, cge, lI_add, lI_sub, lI_mul, jadd, jsub, jmul, jneg, jtol, b010, b011, pv_2t, Int.toNat_natCast, Option.some.injEq, exists_eq_left', if_true, if_false, show gRc 232 = 1 from rfl]
      exact q
    | succ k ih =>
      intro a o3 o4 o5 hk
      refine vs_ok 6 ?_
      rw [show ((gRes 232).drop 7).take 6 = [.iload 2, .aload 0, .getfield 12112, .iconst 0, .iaload, .if_icmp .ge 76] from rfl]
      simp (disch := omega) only [vs_iconst, vs_if_icmp, vs_getfield, vs_iaload, vs_aload0, vs_iload2, vs_nil, gv_0, gv_1, gv_2, gv_3, pv_0, pv_1, va_rf_s, Nat.reduceDiv, Nat.reduceMod, Nat.reduceAdd, Nat.reduceMul, Int.reduceToNat, true_and, and_true, and_self, cP_eq, cP_ne, cP_lt, cP_ge, cP_gt, cP_le, eL_i, eL_l, eL_r, eL_n, Option.toList_none, Option.toList_some, List.nil_append, List.cons_append, kkI, llI, nnI, rrI, jjI, kkJ, llJ, nnJ, rrJ, iiJ, zIIs, zJJs, nEF, nET, and_false, false_and, jmin, jmax, catS_n, catS_i, catS_r, catS_l, Nat.reduceLeDiff, j1eq1, n21, jt0, jt1, Bool.false_eq_true, Classical.not_not, true_or, or_true, false_or, or_false, true_imp_iff, false_imp_iff, not_true_eq_false, not_false_eq_true, jif0, jif1, jifb, ltT, ltF, leT, leF, eqT, eqF, jlt, jle, jeq, jlt0, jle0, jeq0, jge0, jgt0, jinB, jnat, clt, cle, ceq, cgt, cge, lI_add, lI_sub, lI_mul, jadd, jsub, jmul, jneg, jtol, b010, b011, pv_2t, Int.toNat_natCast, Option.some.injEq, exists_eq_left', if_true, if_false, M1, A, n7]
      refine vs_ok 4 ?_
      rw [show ((gRes 232).drop 13).take 4 = [.iload 2, .iconst 1, .iadd, .istore 3] from rfl]
      simp (disch := omega) only [vs_iadd, vs_iconst, vs_iload2, vs_istore3n, vs_istore3i, vs_istore3r, vs_istore3l, vs_nil, gv_0, gv_1, gv_2, gv_3, pv_0, pv_1, va_rf_s, Nat.reduceDiv, Nat.reduceMod, Nat.reduceAdd, Nat.reduceMul, Int.reduceToNat, true_and, and_true, and_self, cP_eq, cP_ne, cP_lt, cP_ge, cP_gt, cP_le, eL_i, eL_l, eL_r, eL_n, Option.toList_none, Option.toList_some, List.nil_append, List.cons_append, kkI, llI, nnI, rrI, jjI, kkJ, llJ, nnJ, rrJ, iiJ, zIIs, zJJs, nEF, nET, and_false, false_and, jmin, jmax, catS_n, catS_i, catS_r, catS_l, Nat.reduceLeDiff, j1eq1, n21, jt0, jt1, Bool.false_eq_true, Classical.not_not, true_or, or_true, false_or, or_false, true_imp_iff, false_imp_iff, not_true_eq_false, not_false_eq_true, jif0, jif1, jifb, ltT, ltF, leT, leF, eqT, eqF, jlt, jle, jeq, jlt0, jle0, jeq0, jge0, jgt0, jinB, jnat, clt, cle, ceq, cgt, cge, lI_add, lI_sub, lI_mul, jadd, jsub, jmul, jneg, jtol, b010, b011, pv_2t, Int.toNat_natCast, Option.some.injEq, exists_eq_left', if_true, if_false]
      have e0 : smN (th2 bt nm a) (a + 1) = 0 := smN_zero _ fun i hi => if_neg (by omega)
      have := lb a (smN (fun a => smN (th2 bt nm a) nm) a) (by omega) (fun o3 o4 o5 => by
        refine vs_ok 2 ?_
        rw [show ((gRes 232).drop 74).take 2 = [.iinc 2 1, .goto 7] from rfl]
        simp (disch := omega) only [vs_goto, vs_iinc2n, vs_iinc2i, vs_iinc2r, vs_iinc2l, vs_nil, gv_0, gv_1, gv_2, gv_3, pv_0, pv_1, va_rf_s, Nat.reduceDiv, Nat.reduceMod, Nat.reduceAdd, Nat.reduceMul, Int.reduceToNat, true_and, and_true, and_self, cP_eq, cP_ne, cP_lt, cP_ge, cP_gt, cP_le, eL_i, eL_l, eL_r, eL_n, Option.toList_none, Option.toList_some, List.nil_append, List.cons_append, kkI, llI, nnI, rrI, jjI, kkJ, llJ, nnJ, rrJ, iiJ, zIIs, zJJs, nEF, nET, and_false, false_and, jmin, jmax, catS_n, catS_i, catS_r, catS_l, Nat.reduceLeDiff, j1eq1, n21, jt0, jt1, Bool.false_eq_true, Classical.not_not, true_or, or_true, false_or, or_false, true_imp_iff, false_imp_iff, not_true_eq_false, not_false_eq_true, jif0, jif1, jifb, ltT, ltF, leT, leF, eqT, eqF, jlt, jle, jeq, jlt0, jle0, jeq0, jge0, jgt0, jinB, jnat, clt, cle, ceq, cgt, cge, lI_add, lI_sub, lI_mul, jadd, jsub, jmul, jneg, jtol, b010, b011, pv_2t, Int.toNat_natCast, Option.some.injEq, exists_eq_left', if_true, if_false]
        exact ih (a + 1) o3 o4 o5 (by omega)) (nm - (a + 1)) (a + 1) o4 o5 (by omega) (by omega)
      rw [e0, Nat.add_zero] at this
      exact this
  exact la nm 0 none none none (by omega)
theorem t_M_anyTwo {d : Nat} {h : Hp} {m nm : Nat} {bt : Nat → Nat} {Q : Nat → Option Value → Hp → Prop} (hm : mO h m) (hn : zI h (m + 7) 0 = iI nm) (hb : nm ≤ 12) (n : mtN h m nm bt) (hq : ∀ g, mt0 h g m 0 → Q 0 (some (.int (iI (r2 (fA (noB bt nm) nm nm 0))))) g) : PR d m_M_anyTwo [.ref m] h Q := by
  have M := hm.k
  show PW d 235 0 [some (.ref m), none, none, none, none] [] h Q
  refine vs_ok 5 ?_
  rw [show ((gRes 235).drop 0).take 5 = [.aload 0, .iconst 0, .putfield 12000, .iconst 0, .istore 1] from rfl]
  simp (disch := omega) only [vs_iconst, vs_putfield, vs_aload0, vs_istore1n, vs_istore1i, vs_istore1r, vs_istore1l, vs_nil, gv_0, gv_1, gv_2, gv_3, pv_0, pv_1, va_rf_s, Nat.reduceDiv, Nat.reduceMod, Nat.reduceAdd, Nat.reduceMul, Int.reduceToNat, true_and, and_true, and_self, cP_eq, cP_ne, cP_lt, cP_ge, cP_gt, cP_le, eL_i, eL_l, eL_r, eL_n, Option.toList_none, Option.toList_some, List.nil_append, List.cons_append, kkI, llI, nnI, rrI, jjI, kkJ, llJ, nnJ, rrJ, iiJ, zIIs, zJJs, nEF, nET, and_false, false_and, jmin, jmax, catS_n, catS_i, catS_r, catS_l, Nat.reduceLeDiff, j1eq1, n21, jt0, jt1, Bool.false_eq_true, Classical.not_not, true_or, or_true, false_or, or_false, true_imp_iff, false_imp_iff, not_true_eq_false, not_false_eq_true, jif0, jif1, jifb, ltT, ltF, leT, leF, eqT, eqF, jlt, jle, jeq, jlt0, jle0, jeq0, jge0, jgt0, jinB, jnat, clt, cle, ceq, cgt, cge, lI_add, lI_sub, lI_mul, jadd, jsub, jmul, jneg, jtol, b010, b011, pv_2t, Int.toNat_natCast, Option.some.injEq, exists_eq_left', if_true, if_false, M]
  have z := mt0_s (h := h) (m := m) 0
  have q := hq _ z
  have hg := hm.fi z.1
  have ng := n.fi z.1 (by omega)
  have n7 : zI (zsI h m 0 (iI 0)) (m + 7) 0 = iI nm := by rw [zI_s, if_neg (by omega)]; exact hn
  generalize zsI h m 0 (iI 0) = g at *
  have M1 := hg.k
  have A := hg.nameMany
  have A8 := hg.net
  have two : ∀ x a b : Nat, (x &&& (2 ^ a ||| 2 ^ b) == (2 ^ a ||| 2 ^ b)) = (x.testBit a && x.testBit b) := fun x a b => by
    by_cases c : x.testBit a = true ∧ x.testBit b = true
    · rw [c.1, c.2]
      refine beq_iff_eq.mpr (Nat.eq_of_testBit_eq fun i => ?_)
      rw [Nat.testBit_and, Nat.testBit_or, Nat.testBit_two_pow, Nat.testBit_two_pow]
      by_cases e1 : a = i
      · subst e1; simp [c.1]
      · by_cases e2 : b = i
        · subst e2; simp [c.2]
        · simp [e1, e2]
    · rw [show (x.testBit a && x.testBit b) = false by
        by_cases w : x.testBit a = true
        · rw [Bool.eq_false_iff.mpr fun y => c ⟨w, y⟩, Bool.and_false]
        · rw [Bool.eq_false_iff.mpr w, Bool.false_and]]
      refine Bool.eq_false_iff.mpr fun y => c ?_
      have e := beq_iff_eq.mp y
      have ta := congrArg (fun v => v.testBit a) e
      have tb := congrArg (fun v => v.testBit b) e
      simp only [Nat.testBit_and, Nat.testBit_or, Nat.testBit_two_pow_self, Bool.true_or, Bool.or_true, Bool.and_true] at ta tb
      exact ⟨ta, tb⟩
  have lc : ∀ (a b : Nat), a < nm → b < nm → ∀ (k c : Nat), k + c = nm → (∀ o4, PW d 235 59 [some (.ref m), some (.int (iI a)), some (.int (iI b)), some (.int (iI (if anyN (fun c => bt c &&& (2 ^ a ||| 2 ^ b) == (2 ^ a ||| 2 ^ b)) nm = true then 1 else 0))), o4] [] g Q) → PW d 235 25 [some (.ref m), some (.int (iI a)), some (.int (iI b)), some (.int (iI (if anyN (fun c => bt c &&& (2 ^ a ||| 2 ^ b) == (2 ^ a ||| 2 ^ b)) c = true then 1 else 0))), some (.int (iI c))] [] g Q := by
    intro a b ha hbn k
    induction k with
    | zero =>
      intro c hc K
      have e : c = nm := by omega
      subst e
      refine vs_ok 6 ?_
      rw [show ((gRes 235).drop 25).take 6 = [.iload 4, .aload 0, .getfield 12112, .iconst 0, .iaload, .if_icmp .ge 59] from rfl]
      simp (disch := omega) only [vs_iconst, vs_if_icmp, vs_getfield, vs_iaload, vs_aload0, vs_iload4, vs_nil, gv_0, gv_1, gv_2, gv_3, pv_0, pv_1, va_rf_s, Nat.reduceDiv, Nat.reduceMod, Nat.reduceAdd, Nat.reduceMul, Int.reduceToNat, true_and, and_true, and_self, cP_eq, cP_ne, cP_lt, cP_ge, cP_gt, cP_le, eL_i, eL_l, eL_r, eL_n, Option.toList_none, Option.toList_some, List.nil_append, List.cons_append, kkI, llI, nnI, rrI, jjI, kkJ, llJ, nnJ, rrJ, iiJ, zIIs, zJJs, nEF, nET, and_false, false_and, jmin, jmax, catS_n, catS_i, catS_r, catS_l, Nat.reduceLeDiff, j1eq1, n21, jt0, jt1, Bool.false_eq_true, Classical.not_not, true_or, or_true, false_or, or_false, true_imp_iff, false_imp_iff, not_true_eq_false, not_false_eq_true, jif0, jif1, jifb, ltT, ltF, leT, leF, eqT, eqF, jlt, jle, jeq, jlt0, jle0, jeq0, jge0, jgt0, jinB, jnat, clt, cle, ceq, cgt, cge, lI_add, lI_sub, lI_mul, jadd, jsub, jmul, jneg, jtol, b010, b011, pv_2t, Int.toNat_natCast, Option.some.injEq, exists_eq_left', if_true, if_false, M1, A, n7]
      exact K _
    | succ k ih =>
      intro c hc K
      have y := ih (c + 1) (by omega) K
      have ef : anyN (fun c => bt c &&& (2 ^ a ||| 2 ^ b) == (2 ^ a ||| 2 ^ b)) (c + 1) = (anyN (fun c => bt c &&& (2 ^ a ||| 2 ^ b) == (2 ^ a ||| 2 ^ b)) c || (bt c &&& (2 ^ a ||| 2 ^ b) == (2 ^ a ||| 2 ^ b))) := rfl
      rw [ef, two] at y
      have e1 : (12 : Int) * (c : Int) + (a : Int) = ((12 * c + a : Nat) : Int) := by omega
      have e2 : (12 : Int) * (c : Int) + (b : Int) = ((12 * c + b : Nat) : Int) := by omega
      have v1 := ng c a (by omega) ha
      have v2 := ng c b (by omega) hbn
      have s1 := nsg_b bt c a
      have s2 := nsg_b bt c b
      have t1 := ns1 bt c a
      have t2 := ns1 bt c b
      by_cases c0 : anyN (fun c => bt c &&& (2 ^ a ||| 2 ^ b) == (2 ^ a ||| 2 ^ b)) c = true
      · rw [c0, Bool.true_or, if_pos rfl] at y
        rw [if_pos c0]
        refine vs_ok 6 ?_
        rw [show ((gRes 235).drop 25).take 6 = [.iload 4, .aload 0, .getfield 12112, .iconst 0, .iaload, .if_icmp .ge 59] from rfl]
        simp (disch := omega) only [vs_iconst, vs_if_icmp, vs_getfield, vs_iaload, vs_aload0, vs_iload4, vs_nil, gv_0, gv_1, gv_2, gv_3, pv_0, pv_1, va_rf_s, Nat.reduceDiv, Nat.reduceMod, Nat.reduceAdd, Nat.reduceMul, Int.reduceToNat, true_and, and_true, and_self, cP_eq, cP_ne, cP_lt, cP_ge, cP_gt, cP_le, eL_i, eL_l, eL_r, eL_n, Option.toList_none, Option.toList_some, List.nil_append, List.cons_append, kkI, llI, nnI, rrI, jjI, kkJ, llJ, nnJ, rrJ, iiJ, zIIs, zJJs, nEF, nET, and_false, false_and, jmin, jmax, catS_n, catS_i, catS_r, catS_l, Nat.reduceLeDiff, j1eq1, n21, jt0, jt1, Bool.false_eq_true, Classical.not_not, true_or, or_true, false_or, or_false, true_imp_iff, false_imp_iff, not_true_eq_false, not_false_eq_true, jif0, jif1, jifb, ltT, ltF, leT, leF, eqT, eqF, jlt, jle, jeq, jlt0, jle0, jeq0, jge0, jgt0, jinB, jnat, clt, cle, ceq, cgt, cge, lI_add, lI_sub, lI_mul, jadd, jsub, jmul, jneg, jtol, b010, b011, pv_2t, Int.toNat_natCast, Option.some.injEq, exists_eq_left', if_true, if_false, M1, A, n7]
        refine vs_ok 2 ?_
        rw [show ((gRes 235).drop 31).take 2 = [.iload 3, .ifCond .ne 53] from rfl]
        simp (disch := omega) only [vs_ifCond, vs_iload3, vs_nil, gv_0, gv_1, gv_2, gv_3, pv_0, pv_1, va_rf_s, Nat.reduceDiv, Nat.reduceMod, Nat.reduceAdd, Nat.reduceMul, Int.reduceToNat, true_and, and_true, and_self, cP_eq, cP_ne, cP_lt, cP_ge, cP_gt, cP_le, eL_i, eL_l, eL_r, eL_n, Option.toList_none, Option.toList_some, List.nil_append, List.cons_append, kkI, llI, nnI, rrI, jjI, kkJ, llJ, nnJ, rrJ, iiJ, zIIs, zJJs, nEF, nET, and_false, false_and, jmin, jmax, catS_n, catS_i, catS_r, catS_l, Nat.reduceLeDiff, j1eq1, n21, jt0, jt1, Bool.false_eq_true, Classical.not_not, true_or, or_true, false_or, or_false, true_imp_iff, false_imp_iff, not_true_eq_false, not_false_eq_true, jif0, jif1, jifb, ltT, ltF, leT, leF, eqT, eqF, jlt, jle, jeq, jlt0, jle0, jeq0, jge0, jgt0, jinB, jnat, clt, cle, ceq, cgt, cge, lI_add, lI_sub, lI_mul, jadd, jsub, jmul, jneg, jtol, b010, b011, pv_2t, Int.toNat_natCast, Option.some.injEq, exists_eq_left', if_true, if_false]
        refine vs_ok 2 ?_
        rw [show ((gRes 235).drop 53).take 2 = [.iconst 1, .goto 56] from rfl]
        simp (disch := omega) only [vs_iconst, vs_goto, vs_nil, gv_0, gv_1, gv_2, gv_3, pv_0, pv_1, va_rf_s, Nat.reduceDiv, Nat.reduceMod, Nat.reduceAdd, Nat.reduceMul, Int.reduceToNat, true_and, and_true, and_self, cP_eq, cP_ne, cP_lt, cP_ge, cP_gt, cP_le, eL_i, eL_l, eL_r, eL_n, Option.toList_none, Option.toList_some, List.nil_append, List.cons_append, kkI, llI, nnI, rrI, jjI, kkJ, llJ, nnJ, rrJ, iiJ, zIIs, zJJs, nEF, nET, and_false, false_and, jmin, jmax, catS_n, catS_i, catS_r, catS_l, Nat.reduceLeDiff, j1eq1, n21, jt0, jt1, Bool.false_eq_true, Classical.not_not, true_or, or_true, false_or, or_false, true_imp_iff, false_imp_iff, not_true_eq_false, not_false_eq_true, jif0, jif1, jifb, ltT, ltF, leT, leF, eqT, eqF, jlt, jle, jeq, jlt0, jle0, jeq0, jge0, jgt0, jinB, jnat, clt, cle, ceq, cgt, cge, lI_add, lI_sub, lI_mul, jadd, jsub, jmul, jneg, jtol, b010, b011, pv_2t, Int.toNat_natCast, Option.some.injEq, exists_eq_left', if_true, if_false]
        refine vs_ok 3 ?_
        rw [show ((gRes 235).drop 56).take 3 = [.istore 3, .iinc 4 1, .goto 25] from rfl]
        simp (disch := omega) only [vs_goto, vs_istore3n, vs_istore3i, vs_istore3r, vs_istore3l, vs_iinc4n, vs_iinc4i, vs_iinc4r, vs_iinc4l, vs_nil, gv_0, gv_1, gv_2, gv_3, pv_0, pv_1, va_rf_s, Nat.reduceDiv, Nat.reduceMod, Nat.reduceAdd, Nat.reduceMul, Int.reduceToNat, true_and, and_true, and_self, cP_eq, cP_ne, cP_lt, cP_ge, cP_gt, cP_le, eL_i, eL_l, eL_r, eL_n, Option.toList_none, Option.toList_some, List.nil_append, List.cons_append, kkI, llI, nnI, rrI, jjI, kkJ, llJ, nnJ, rrJ, iiJ, zIIs, zJJs, nEF, nET, and_false, false_and, jmin, jmax, catS_n, catS_i, catS_r, catS_l, Nat.reduceLeDiff, j1eq1, n21, jt0, jt1, Bool.false_eq_true, Classical.not_not, true_or, or_true, false_or, or_false, true_imp_iff, false_imp_iff, not_true_eq_false, not_false_eq_true, jif0, jif1, jifb, ltT, ltF, leT, leF, eqT, eqF, jlt, jle, jeq, jlt0, jle0, jeq0, jge0, jgt0, jinB, jnat, clt, cle, ceq, cgt, cge, lI_add, lI_sub, lI_mul, jadd, jsub, jmul, jneg, jtol, b010, b011, pv_2t, Int.toNat_natCast, Option.some.injEq, exists_eq_left', if_true, if_false]
        exact y
      · rw [Bool.eq_false_iff.mpr c0, Bool.false_or] at y
        rw [if_neg c0]
        by_cases c1 : (bt c).testBit a = true
        · by_cases c2 : (bt c).testBit b = true
          · rw [c1, c2, Bool.true_and, if_pos rfl] at y
            refine vs_ok 6 ?_
            rw [show ((gRes 235).drop 25).take 6 = [.iload 4, .aload 0, .getfield 12112, .iconst 0, .iaload, .if_icmp .ge 59] from rfl]
            simp (disch := omega) only [vs_iconst, vs_if_icmp, vs_getfield, vs_iaload, vs_aload0, vs_iload4, vs_nil, gv_0, gv_1, gv_2, gv_3, pv_0, pv_1, va_rf_s, Nat.reduceDiv, Nat.reduceMod, Nat.reduceAdd, Nat.reduceMul, Int.reduceToNat, true_and, and_true, and_self, cP_eq, cP_ne, cP_lt, cP_ge, cP_gt, cP_le, eL_i, eL_l, eL_r, eL_n, Option.toList_none, Option.toList_some, List.nil_append, List.cons_append, kkI, llI, nnI, rrI, jjI, kkJ, llJ, nnJ, rrJ, iiJ, zIIs, zJJs, nEF, nET, and_false, false_and, jmin, jmax, catS_n, catS_i, catS_r, catS_l, Nat.reduceLeDiff, j1eq1, n21, jt0, jt1, Bool.false_eq_true, Classical.not_not, true_or, or_true, false_or, or_false, true_imp_iff, false_imp_iff, not_true_eq_false, not_false_eq_true, jif0, jif1, jifb, ltT, ltF, leT, leF, eqT, eqF, jlt, jle, jeq, jlt0, jle0, jeq0, jge0, jgt0, jinB, jnat, clt, cle, ceq, cgt, cge, lI_add, lI_sub, lI_mul, jadd, jsub, jmul, jneg, jtol, b010, b011, pv_2t, Int.toNat_natCast, Option.some.injEq, exists_eq_left', if_true, if_false, M1, A, n7]
            refine vs_ok 2 ?_
            rw [show ((gRes 235).drop 31).take 2 = [.iload 3, .ifCond .ne 53] from rfl]
            simp (disch := omega) only [vs_ifCond, vs_iload3, vs_nil, gv_0, gv_1, gv_2, gv_3, pv_0, pv_1, va_rf_s, Nat.reduceDiv, Nat.reduceMod, Nat.reduceAdd, Nat.reduceMul, Int.reduceToNat, true_and, and_true, and_self, cP_eq, cP_ne, cP_lt, cP_ge, cP_gt, cP_le, eL_i, eL_l, eL_r, eL_n, Option.toList_none, Option.toList_some, List.nil_append, List.cons_append, kkI, llI, nnI, rrI, jjI, kkJ, llJ, nnJ, rrJ, iiJ, zIIs, zJJs, nEF, nET, and_false, false_and, jmin, jmax, catS_n, catS_i, catS_r, catS_l, Nat.reduceLeDiff, j1eq1, n21, jt0, jt1, Bool.false_eq_true, Classical.not_not, true_or, or_true, false_or, or_false, true_imp_iff, false_imp_iff, not_true_eq_false, not_false_eq_true, jif0, jif1, jifb, ltT, ltF, leT, leF, eqT, eqF, jlt, jle, jeq, jlt0, jle0, jeq0, jge0, jgt0, jinB, jnat, clt, cle, ceq, cgt, cge, lI_add, lI_sub, lI_mul, jadd, jsub, jmul, jneg, jtol, b010, b011, pv_2t, Int.toNat_natCast, Option.some.injEq, exists_eq_left', if_true, if_false]
            refine vs_ok 10 ?_
            rw [show ((gRes 235).drop 33).take 10 = [.aload 0, .getfield 12122, .iconst 12, .iload 4, .imul, .iload 1, .iadd, .iaload, .iconst 1, .if_icmp .ne 55] from rfl]
            simp (disch := omega) only [vs_iadd, vs_imul, vs_iconst, vs_if_icmp, vs_getfield, vs_iaload, vs_aload0, vs_iload1, vs_iload4, vs_nil, gv_0, gv_1, gv_2, gv_3, pv_0, pv_1, va_rf_s, Nat.reduceDiv, Nat.reduceMod, Nat.reduceAdd, Nat.reduceMul, Int.reduceToNat, true_and, and_true, and_self, cP_eq, cP_ne, cP_lt, cP_ge, cP_gt, cP_le, eL_i, eL_l, eL_r, eL_n, Option.toList_none, Option.toList_some, List.nil_append, List.cons_append, kkI, llI, nnI, rrI, jjI, kkJ, llJ, nnJ, rrJ, iiJ, zIIs, zJJs, nEF, nET, and_false, false_and, jmin, jmax, catS_n, catS_i, catS_r, catS_l, Nat.reduceLeDiff, j1eq1, n21, jt0, jt1, Bool.false_eq_true, Classical.not_not, true_or, or_true, false_or, or_false, true_imp_iff, false_imp_iff, not_true_eq_false, not_false_eq_true, jif0, jif1, jifb, ltT, ltF, leT, leF, eqT, eqF, jlt, jle, jeq, jlt0, jle0, jeq0, jge0, jgt0, jinB, jnat, clt, cle, ceq, cgt, cge, lI_add, lI_sub, lI_mul, jadd, jsub, jmul, jneg, jtol, b010, b011, pv_2t, Int.toNat_natCast, Option.some.injEq, exists_eq_left', if_true, if_false, M1, A8, e1, v1, show nsg bt c a = 1 by rw [t1]; exact c1]
            refine vs_ok 10 ?_
            rw [show ((gRes 235).drop 43).take 10 = [.aload 0, .getfield 12122, .iconst 12, .iload 4, .imul, .iload 2, .iadd, .iaload, .iconst 1, .if_icmp .ne 55] from rfl]
            simp (disch := omega) only [vs_iadd, vs_imul, vs_iconst, vs_if_icmp, vs_getfield, vs_iaload, vs_aload0, vs_iload2, vs_iload4, vs_nil, gv_0, gv_1, gv_2, gv_3, pv_0, pv_1, va_rf_s, Nat.reduceDiv, Nat.reduceMod, Nat.reduceAdd, Nat.reduceMul, Int.reduceToNat, true_and, and_true, and_self, cP_eq, cP_ne, cP_lt, cP_ge, cP_gt, cP_le, eL_i, eL_l, eL_r, eL_n, Option.toList_none, Option.toList_some, List.nil_append, List.cons_append, kkI, llI, nnI, rrI, jjI, kkJ, llJ, nnJ, rrJ, iiJ, zIIs, zJJs, nEF, nET, and_false, false_and, jmin, jmax, catS_n, catS_i, catS_r, catS_l, Nat.reduceLeDiff, j1eq1, n21, jt0, jt1, Bool.false_eq_true, Classical.not_not, true_or, or_true, false_or, or_false, true_imp_iff, false_imp_iff, not_true_eq_false, not_false_eq_true, jif0, jif1, jifb, ltT, ltF, leT, leF, eqT, eqF, jlt, jle, jeq, jlt0, jle0, jeq0, jge0, jgt0, jinB, jnat, clt, cle, ceq, cgt, cge, lI_add, lI_sub, lI_mul, jadd, jsub, jmul, jneg, jtol, b010, b011, pv_2t, Int.toNat_natCast, Option.some.injEq, exists_eq_left', if_true, if_false, M1, A8, e2, v2, show nsg bt c b = 1 by rw [t2]; exact c2]
            refine vs_ok 2 ?_
            rw [show ((gRes 235).drop 53).take 2 = [.iconst 1, .goto 56] from rfl]
            simp (disch := omega) only [vs_iconst, vs_goto, vs_nil, gv_0, gv_1, gv_2, gv_3, pv_0, pv_1, va_rf_s, Nat.reduceDiv, Nat.reduceMod, Nat.reduceAdd, Nat.reduceMul, Int.reduceToNat, true_and, and_true, and_self, cP_eq, cP_ne, cP_lt, cP_ge, cP_gt, cP_le, eL_i, eL_l, eL_r, eL_n, Option.toList_none, Option.toList_some, List.nil_append, List.cons_append, kkI, llI, nnI, rrI, jjI, kkJ, llJ, nnJ, rrJ, iiJ, zIIs, zJJs, nEF, nET, and_false, false_and, jmin, jmax, catS_n, catS_i, catS_r, catS_l, Nat.reduceLeDiff, j1eq1, n21, jt0, jt1, Bool.false_eq_true, Classical.not_not, true_or, or_true, false_or, or_false, true_imp_iff, false_imp_iff, not_true_eq_false, not_false_eq_true, jif0, jif1, jifb, ltT, ltF, leT, leF, eqT, eqF, jlt, jle, jeq, jlt0, jle0, jeq0, jge0, jgt0, jinB, jnat, clt, cle, ceq, cgt, cge, lI_add, lI_sub, lI_mul, jadd, jsub, jmul, jneg, jtol, b010, b011, pv_2t, Int.toNat_natCast, Option.some.injEq, exists_eq_left', if_true, if_false]
            refine vs_ok 3 ?_
            rw [show ((gRes 235).drop 56).take 3 = [.istore 3, .iinc 4 1, .goto 25] from rfl]
            simp (disch := omega) only [vs_goto, vs_istore3n, vs_istore3i, vs_istore3r, vs_istore3l, vs_iinc4n, vs_iinc4i, vs_iinc4r, vs_iinc4l, vs_nil, gv_0, gv_1, gv_2, gv_3, pv_0, pv_1, va_rf_s, Nat.reduceDiv, Nat.reduceMod, Nat.reduceAdd, Nat.reduceMul, Int.reduceToNat, true_and, and_true, and_self, cP_eq, cP_ne, cP_lt, cP_ge, cP_gt, cP_le, eL_i, eL_l, eL_r, eL_n, Option.toList_none, Option.toList_some, List.nil_append, List.cons_append, kkI, llI, nnI, rrI, jjI, kkJ, llJ, nnJ, rrJ, iiJ, zIIs, zJJs, nEF, nET, and_false, false_and, jmin, jmax, catS_n, catS_i, catS_r, catS_l, Nat.reduceLeDiff, j1eq1, n21, jt0, jt1, Bool.false_eq_true, Classical.not_not, true_or, or_true, false_or, or_false, true_imp_iff, false_imp_iff, not_true_eq_false, not_false_eq_true, jif0, jif1, jifb, ltT, ltF, leT, leF, eqT, eqF, jlt, jle, jeq, jlt0, jle0, jeq0, jge0, jgt0, jinB, jnat, clt, cle, ceq, cgt, cge, lI_add, lI_sub, lI_mul, jadd, jsub, jmul, jneg, jtol, b010, b011, pv_2t, Int.toNat_natCast, Option.some.injEq, exists_eq_left', if_true, if_false]
            exact y
          · rw [Bool.eq_false_iff.mpr c2, Bool.and_false, if_neg (by decide)] at y
            have u2 : ¬ nsg bt c b = 1 := by rw [t2]; exact c2
            refine vs_ok 6 ?_
            rw [show ((gRes 235).drop 25).take 6 = [.iload 4, .aload 0, .getfield 12112, .iconst 0, .iaload, .if_icmp .ge 59] from rfl]
            simp (disch := omega) only [vs_iconst, vs_if_icmp, vs_getfield, vs_iaload, vs_aload0, vs_iload4, vs_nil, gv_0, gv_1, gv_2, gv_3, pv_0, pv_1, va_rf_s, Nat.reduceDiv, Nat.reduceMod, Nat.reduceAdd, Nat.reduceMul, Int.reduceToNat, true_and, and_true, and_self, cP_eq, cP_ne, cP_lt, cP_ge, cP_gt, cP_le, eL_i, eL_l, eL_r, eL_n, Option.toList_none, Option.toList_some, List.nil_append, List.cons_append, kkI, llI, nnI, rrI, jjI, kkJ, llJ, nnJ, rrJ, iiJ, zIIs, zJJs, nEF, nET, and_false, false_and, jmin, jmax, catS_n, catS_i, catS_r, catS_l, Nat.reduceLeDiff, j1eq1, n21, jt0, jt1, Bool.false_eq_true, Classical.not_not, true_or, or_true, false_or, or_false, true_imp_iff, false_imp_iff, not_true_eq_false, not_false_eq_true, jif0, jif1, jifb, ltT, ltF, leT, leF, eqT, eqF, jlt, jle, jeq, jlt0, jle0, jeq0, jge0, jgt0, jinB, jnat, clt, cle, ceq, cgt, cge, lI_add, lI_sub, lI_mul, jadd, jsub, jmul, jneg, jtol, b010, b011, pv_2t, Int.toNat_natCast, Option.some.injEq, exists_eq_left', if_true, if_false, M1, A, n7]
            refine vs_ok 2 ?_
            rw [show ((gRes 235).drop 31).take 2 = [.iload 3, .ifCond .ne 53] from rfl]
            simp (disch := omega) only [vs_ifCond, vs_iload3, vs_nil, gv_0, gv_1, gv_2, gv_3, pv_0, pv_1, va_rf_s, Nat.reduceDiv, Nat.reduceMod, Nat.reduceAdd, Nat.reduceMul, Int.reduceToNat, true_and, and_true, and_self, cP_eq, cP_ne, cP_lt, cP_ge, cP_gt, cP_le, eL_i, eL_l, eL_r, eL_n, Option.toList_none, Option.toList_some, List.nil_append, List.cons_append, kkI, llI, nnI, rrI, jjI, kkJ, llJ, nnJ, rrJ, iiJ, zIIs, zJJs, nEF, nET, and_false, false_and, jmin, jmax, catS_n, catS_i, catS_r, catS_l, Nat.reduceLeDiff, j1eq1, n21, jt0, jt1, Bool.false_eq_true, Classical.not_not, true_or, or_true, false_or, or_false, true_imp_iff, false_imp_iff, not_true_eq_false, not_false_eq_true, jif0, jif1, jifb, ltT, ltF, leT, leF, eqT, eqF, jlt, jle, jeq, jlt0, jle0, jeq0, jge0, jgt0, jinB, jnat, clt, cle, ceq, cgt, cge, lI_add, lI_sub, lI_mul, jadd, jsub, jmul, jneg, jtol, b010, b011, pv_2t, Int.toNat_natCast, Option.some.injEq, exists_eq_left', if_true, if_false]
            refine vs_ok 10 ?_
            rw [show ((gRes 235).drop 33).take 10 = [.aload 0, .getfield 12122, .iconst 12, .iload 4, .imul, .iload 1, .iadd, .iaload, .iconst 1, .if_icmp .ne 55] from rfl]
            simp (disch := omega) only [vs_iadd, vs_imul, vs_iconst, vs_if_icmp, vs_getfield, vs_iaload, vs_aload0, vs_iload1, vs_iload4, vs_nil, gv_0, gv_1, gv_2, gv_3, pv_0, pv_1, va_rf_s, Nat.reduceDiv, Nat.reduceMod, Nat.reduceAdd, Nat.reduceMul, Int.reduceToNat, true_and, and_true, and_self, cP_eq, cP_ne, cP_lt, cP_ge, cP_gt, cP_le, eL_i, eL_l, eL_r, eL_n, Option.toList_none, Option.toList_some, List.nil_append, List.cons_append, kkI, llI, nnI, rrI, jjI, kkJ, llJ, nnJ, rrJ, iiJ, zIIs, zJJs, nEF, nET, and_false, false_and, jmin, jmax, catS_n, catS_i, catS_r, catS_l, Nat.reduceLeDiff, j1eq1, n21, jt0, jt1, Bool.false_eq_true, Classical.not_not, true_or, or_true, false_or, or_false, true_imp_iff, false_imp_iff, not_true_eq_false, not_false_eq_true, jif0, jif1, jifb, ltT, ltF, leT, leF, eqT, eqF, jlt, jle, jeq, jlt0, jle0, jeq0, jge0, jgt0, jinB, jnat, clt, cle, ceq, cgt, cge, lI_add, lI_sub, lI_mul, jadd, jsub, jmul, jneg, jtol, b010, b011, pv_2t, Int.toNat_natCast, Option.some.injEq, exists_eq_left', if_true, if_false, M1, A8, e1, v1, show nsg bt c a = 1 by rw [t1]; exact c1]
            refine vs_ok 10 ?_
            rw [show ((gRes 235).drop 43).take 10 = [.aload 0, .getfield 12122, .iconst 12, .iload 4, .imul, .iload 2, .iadd, .iaload, .iconst 1, .if_icmp .ne 55] from rfl]
            simp (disch := omega) only [vs_iadd, vs_imul, vs_iconst, vs_if_icmp, vs_getfield, vs_iaload, vs_aload0, vs_iload2, vs_iload4, vs_nil, gv_0, gv_1, gv_2, gv_3, pv_0, pv_1, va_rf_s, Nat.reduceDiv, Nat.reduceMod, Nat.reduceAdd, Nat.reduceMul, Int.reduceToNat, true_and, and_true, and_self, cP_eq, cP_ne, cP_lt, cP_ge, cP_gt, cP_le, eL_i, eL_l, eL_r, eL_n, Option.toList_none, Option.toList_some, List.nil_append, List.cons_append, kkI, llI, nnI, rrI, jjI, kkJ, llJ, nnJ, rrJ, iiJ, zIIs, zJJs, nEF, nET, and_false, false_and, jmin, jmax, catS_n, catS_i, catS_r, catS_l, Nat.reduceLeDiff, j1eq1, n21, jt0, jt1, Bool.false_eq_true, Classical.not_not, true_or, or_true, false_or, or_false, true_imp_iff, false_imp_iff, not_true_eq_false, not_false_eq_true, jif0, jif1, jifb, ltT, ltF, leT, leF, eqT, eqF, jlt, jle, jeq, jlt0, jle0, jeq0, jge0, jgt0, jinB, jnat, clt, cle, ceq, cgt, cge, lI_add, lI_sub, lI_mul, jadd, jsub, jmul, jneg, jtol, b010, b011, pv_2t, Int.toNat_natCast, Option.some.injEq, exists_eq_left', if_true, if_false, M1, A8, e2, v2]
            refine vs_ok 4 ?_
            rw [show ((gRes 235).drop 55).take 4 = [.iconst 0, .istore 3, .iinc 4 1, .goto 25] from rfl]
            simp (disch := omega) only [vs_iconst, vs_goto, vs_istore3n, vs_istore3i, vs_istore3r, vs_istore3l, vs_iinc4n, vs_iinc4i, vs_iinc4r, vs_iinc4l, vs_nil, gv_0, gv_1, gv_2, gv_3, pv_0, pv_1, va_rf_s, Nat.reduceDiv, Nat.reduceMod, Nat.reduceAdd, Nat.reduceMul, Int.reduceToNat, true_and, and_true, and_self, cP_eq, cP_ne, cP_lt, cP_ge, cP_gt, cP_le, eL_i, eL_l, eL_r, eL_n, Option.toList_none, Option.toList_some, List.nil_append, List.cons_append, kkI, llI, nnI, rrI, jjI, kkJ, llJ, nnJ, rrJ, iiJ, zIIs, zJJs, nEF, nET, and_false, false_and, jmin, jmax, catS_n, catS_i, catS_r, catS_l, Nat.reduceLeDiff, j1eq1, n21, jt0, jt1, Bool.false_eq_true, Classical.not_not, true_or, or_true, false_or, or_false, true_imp_iff, false_imp_iff, not_true_eq_false, not_false_eq_true, jif0, jif1, jifb, ltT, ltF, leT, leF, eqT, eqF, jlt, jle, jeq, jlt0, jle0, jeq0, jge0, jgt0, jinB, jnat, clt, cle, ceq, cgt, cge, lI_add, lI_sub, lI_mul, jadd, jsub, jmul, jneg, jtol, b010, b011, pv_2t, Int.toNat_natCast, Option.some.injEq, exists_eq_left', if_true, if_false]
            exact y
        · rw [Bool.eq_false_iff.mpr c1, Bool.false_and, if_neg (by decide)] at y
          have u1 : ¬ nsg bt c a = 1 := by rw [t1]; exact c1
          refine vs_ok 6 ?_
          rw [show ((gRes 235).drop 25).take 6 = [.iload 4, .aload 0, .getfield 12112, .iconst 0, .iaload, .if_icmp .ge 59] from rfl]
          simp (disch := omega) only [vs_iconst, vs_if_icmp, vs_getfield, vs_iaload, vs_aload0, vs_iload4, vs_nil, gv_0, gv_1, gv_2, gv_3, pv_0, pv_1, va_rf_s, Nat.reduceDiv, Nat.reduceMod, Nat.reduceAdd, Nat.reduceMul, Int.reduceToNat, true_and, and_true, and_self, cP_eq, cP_ne, cP_lt, cP_ge, cP_gt, cP_le, eL_i, eL_l, eL_r, eL_n, Option.toList_none, Option.toList_some, List.nil_append, List.cons_append, kkI, llI, nnI, rrI, jjI, kkJ, llJ, nnJ, rrJ, iiJ, zIIs, zJJs, nEF, nET, and_false, false_and, jmin, jmax, catS_n, catS_i, catS_r, catS_l, Nat.reduceLeDiff, j1eq1, n21, jt0, jt1, Bool.false_eq_true, Classical.not_not, true_or, or_true, false_or, or_false, true_imp_iff, false_imp_iff, not_true_eq_false, not_false_eq_true, jif0, jif1, jifb, ltT, ltF, leT, leF, eqT, eqF, jlt, jle, jeq, jlt0, jle0, jeq0, jge0, jgt0, jinB, jnat, clt, cle, ceq, cgt, cge, lI_add, lI_sub, lI_mul, jadd, jsub, jmul, jneg, jtol, b010, b011, pv_2t, Int.toNat_natCast, Option.some.injEq, exists_eq_left', if_true, if_false, M1, A, n7]
          refine vs_ok 2 ?_
          rw [show ((gRes 235).drop 31).take 2 = [.iload 3, .ifCond .ne 53] from rfl]
          simp (disch := omega) only [vs_ifCond, vs_iload3, vs_nil, gv_0, gv_1, gv_2, gv_3, pv_0, pv_1, va_rf_s, Nat.reduceDiv, Nat.reduceMod, Nat.reduceAdd, Nat.reduceMul, Int.reduceToNat, true_and, and_true, and_self, cP_eq, cP_ne, cP_lt, cP_ge, cP_gt, cP_le, eL_i, eL_l, eL_r, eL_n, Option.toList_none, Option.toList_some, List.nil_append, List.cons_append, kkI, llI, nnI, rrI, jjI, kkJ, llJ, nnJ, rrJ, iiJ, zIIs, zJJs, nEF, nET, and_false, false_and, jmin, jmax, catS_n, catS_i, catS_r, catS_l, Nat.reduceLeDiff, j1eq1, n21, jt0, jt1, Bool.false_eq_true, Classical.not_not, true_or, or_true, false_or, or_false, true_imp_iff, false_imp_iff, not_true_eq_false, not_false_eq_true, jif0, jif1, jifb, ltT, ltF, leT, leF, eqT, eqF, jlt, jle, jeq, jlt0, jle0, jeq0, jge0, jgt0, jinB, jnat, clt, cle, ceq, cgt, cge, lI_add, lI_sub, lI_mul, jadd, jsub, jmul, jneg, jtol, b010, b011, pv_2t, Int.toNat_natCast, Option.some.injEq, exists_eq_left', if_true, if_false]
          refine vs_ok 10 ?_
          rw [show ((gRes 235).drop 33).take 10 = [.aload 0, .getfield 12122, .iconst 12, .iload 4, .imul, .iload 1, .iadd, .iaload, .iconst 1, .if_icmp .ne 55] from rfl]
          simp (disch := omega) only [vs_iadd, vs_imul, vs_iconst, vs_if_icmp, vs_getfield, vs_iaload, vs_aload0, vs_iload1, vs_iload4, vs_nil, gv_0, gv_1, gv_2, gv_3, pv_0, pv_1, va_rf_s, Nat.reduceDiv, Nat.reduceMod, Nat.reduceAdd, Nat.reduceMul, Int.reduceToNat, true_and, and_true, and_self, cP_eq, cP_ne, cP_lt, cP_ge, cP_gt, cP_le, eL_i, eL_l, eL_r, eL_n, Option.toList_none, Option.toList_some, List.nil_append, List.cons_append, kkI, llI, nnI, rrI, jjI, kkJ, llJ, nnJ, rrJ, iiJ, zIIs, zJJs, nEF, nET, and_false, false_and, jmin, jmax, catS_n, catS_i, catS_r, catS_l, Nat.reduceLeDiff, j1eq1, n21, jt0, jt1, Bool.false_eq_true, Classical.not_not, true_or, or_true, false_or, or_false, true_imp_iff, false_imp_iff, not_true_eq_false, not_false_eq_true, jif0, jif1, jifb, ltT, ltF, leT, leF, eqT, eqF, jlt, jle, jeq, jlt0, jle0, jeq0, jge0, jgt0, jinB, jnat, clt, cle, ceq, cgt, cge, lI_add, lI_sub, lI_mul, jadd, jsub, jmul, jneg, jtol, b010, b011, pv_2t, Int.toNat_natCast, Option.some.injEq, exists_eq_left', if_true, if_false, M1, A8, e1, v1]
          refine vs_ok 4 ?_
          rw [show ((gRes 235).drop 55).take 4 = [.iconst 0, .istore 3, .iinc 4 1, .goto 25] from rfl]
          simp (disch := omega) only [vs_iconst, vs_goto, vs_istore3n, vs_istore3i, vs_istore3r, vs_istore3l, vs_iinc4n, vs_iinc4i, vs_iinc4r, vs_iinc4l, vs_nil, gv_0, gv_1, gv_2, gv_3, pv_0, pv_1, va_rf_s, Nat.reduceDiv, Nat.reduceMod, Nat.reduceAdd, Nat.reduceMul, Int.reduceToNat, true_and, and_true, and_self, cP_eq, cP_ne, cP_lt, cP_ge, cP_gt, cP_le, eL_i, eL_l, eL_r, eL_n, Option.toList_none, Option.toList_some, List.nil_append, List.cons_append, kkI, llI, nnI, rrI, jjI, kkJ, llJ, nnJ, rrJ, iiJ, zIIs, zJJs, nEF, nET, and_false, false_and, jmin, jmax, catS_n, catS_i, catS_r, catS_l, Nat.reduceLeDiff, j1eq1, n21, jt0, jt1, Bool.false_eq_true, Classical.not_not, true_or, or_true, false_or, or_false, true_imp_iff, false_imp_iff, not_true_eq_false, not_false_eq_true, jif0, jif1, jifb, ltT, ltF, leT, leF, eqT, eqF, jlt, jle, jeq, jlt0, jle0, jeq0, jge0, jgt0, jinB, jnat, clt, cle, ceq, cgt, cge, lI_add, lI_sub, lI_mul, jadd, jsub, jmul, jneg, jtol, b010, b011, pv_2t, Int.toNat_natCast, Option.some.injEq, exists_eq_left', if_true, if_false]
          exact y
  have lb : ∀ (a : Nat), a < nm → ∀ (kb b : Nat) (o3 o4 : Option Value), kb + b = nm → a < b → (∀ q, fB (noB bt nm a) kb b = some q → Q 0 (some (.int (iI (100 * (a : Int) + (q : Int))))) g) → (fB (noB bt nm a) kb b = none → ∀ o o3 o4, PW d 235 69 [some (.ref m), some (.int (iI a)), o, o3, o4] [] g Q) → PW d 235 15 [some (.ref m), some (.int (iI a)), some (.int (iI b)), o3, o4] [] g Q := by
    intro a ha kb
    induction kb with
    | zero =>
      intro b o3 o4 hb2 hab h1 h2
      refine vs_ok 6 ?_
      rw [show ((gRes 235).drop 15).take 6 = [.iload 2, .aload 0, .getfield 12112, .iconst 0, .iaload, .if_icmp .ge 69] from rfl]
      simp (disch := omega) only [vs_iconst, vs_if_icmp, vs_getfield, vs_iaload, vs_aload0, vs_iload2, vs_nil, gv_0, gv_1, gv_2, gv_3, pv_0, pv_1, va_rf_s, Nat.reduceDiv, Nat.reduceMod, Nat.reduceAdd, Nat.reduceMul, Int.reduceToNat, true_and, and_true, and_self, cP_eq, cP_ne, cP_lt, cP_ge, cP_gt, cP_le, eL_i, eL_l, eL_r, eL_n, Option.toList_none, Option.toList_some, List.nil_append, List.cons_append, kkI, llI, nnI, rrI, jjI, kkJ, llJ, nnJ, rrJ, iiJ, zIIs, zJJs, nEF, nET, and_false, false_and, jmin, jmax, catS_n, catS_i, catS_r, catS_l, Nat.reduceLeDiff, j1eq1, n21, jt0, jt1, Bool.false_eq_true, Classical.not_not, true_or, or_true, false_or, or_false, true_imp_iff, false_imp_iff, not_true_eq_false, not_false_eq_true, jif0, jif1, jifb, ltT, ltF, leT, leF, eqT, eqF, jlt, jle, jeq, jlt0, jle0, jeq0, jge0, jgt0, jinB, jnat, clt, cle, ceq, cgt, cge, lI_add, lI_sub, lI_mul, jadd, jsub, jmul, jneg, jtol, b010, b011, pv_2t, Int.toNat_natCast, Option.some.injEq, exists_eq_left', if_true, if_false, M1, A, n7]
      exact h2 rfl _ _ _
    | succ kb ih =>
      intro b o3 o4 hb2 hab h1 h2
      have ef : fB (noB bt nm a) (kb + 1) b = if noB bt nm a b = true then some b else fB (noB bt nm a) kb (b + 1) := rfl
      refine vs_ok 6 ?_
      rw [show ((gRes 235).drop 15).take 6 = [.iload 2, .aload 0, .getfield 12112, .iconst 0, .iaload, .if_icmp .ge 69] from rfl]
      simp (disch := omega) only [vs_iconst, vs_if_icmp, vs_getfield, vs_iaload, vs_aload0, vs_iload2, vs_nil, gv_0, gv_1, gv_2, gv_3, pv_0, pv_1, va_rf_s, Nat.reduceDiv, Nat.reduceMod, Nat.reduceAdd, Nat.reduceMul, Int.reduceToNat, true_and, and_true, and_self, cP_eq, cP_ne, cP_lt, cP_ge, cP_gt, cP_le, eL_i, eL_l, eL_r, eL_n, Option.toList_none, Option.toList_some, List.nil_append, List.cons_append, kkI, llI, nnI, rrI, jjI, kkJ, llJ, nnJ, rrJ, iiJ, zIIs, zJJs, nEF, nET, and_false, false_and, jmin, jmax, catS_n, catS_i, catS_r, catS_l, Nat.reduceLeDiff, j1eq1, n21, jt0, jt1, Bool.false_eq_true, Classical.not_not, true_or, or_true, false_or, or_false, true_imp_iff, false_imp_iff, not_true_eq_false, not_false_eq_true, jif0, jif1, jifb, ltT, ltF, leT, leF, eqT, eqF, jlt, jle, jeq, jlt0, jle0, jeq0, jge0, jgt0, jinB, jnat, clt, cle, ceq, cgt, cge, lI_add, lI_sub, lI_mul, jadd, jsub, jmul, jneg, jtol, b010, b011, pv_2t, Int.toNat_natCast, Option.some.injEq, exists_eq_left', if_true, if_false, M1, A, n7]
      refine vs_ok 4 ?_
      rw [show ((gRes 235).drop 21).take 4 = [.iconst 0, .istore 3, .iconst 0, .istore 4] from rfl]
      simp (disch := omega) only [vs_iconst, vs_istore3n, vs_istore3i, vs_istore3r, vs_istore3l, vs_istore4n, vs_istore4i, vs_istore4r, vs_istore4l, vs_nil, gv_0, gv_1, gv_2, gv_3, pv_0, pv_1, va_rf_s, Nat.reduceDiv, Nat.reduceMod, Nat.reduceAdd, Nat.reduceMul, Int.reduceToNat, true_and, and_true, and_self, cP_eq, cP_ne, cP_lt, cP_ge, cP_gt, cP_le, eL_i, eL_l, eL_r, eL_n, Option.toList_none, Option.toList_some, List.nil_append, List.cons_append, kkI, llI, nnI, rrI, jjI, kkJ, llJ, nnJ, rrJ, iiJ, zIIs, zJJs, nEF, nET, and_false, false_and, jmin, jmax, catS_n, catS_i, catS_r, catS_l, Nat.reduceLeDiff, j1eq1, n21, jt0, jt1, Bool.false_eq_true, Classical.not_not, true_or, or_true, false_or, or_false, true_imp_iff, false_imp_iff, not_true_eq_false, not_false_eq_true, jif0, jif1, jifb, ltT, ltF, leT, leF, eqT, eqF, jlt, jle, jeq, jlt0, jle0, jeq0, jge0, jgt0, jinB, jnat, clt, cle, ceq, cgt, cge, lI_add, lI_sub, lI_mul, jadd, jsub, jmul, jneg, jtol, b010, b011, pv_2t, Int.toNat_natCast, Option.some.injEq, exists_eq_left', if_true, if_false]
      refine lc a b ha (by omega) nm 0 (by omega) fun o4 => ?_
      by_cases c : anyN (fun c => bt c &&& (2 ^ a ||| 2 ^ b) == (2 ^ a ||| 2 ^ b)) nm = true
      · rw [if_neg (by unfold noB; rw [c]; decide)] at ef
        rw [ef] at h1 h2
        rw [if_pos c]
        refine vs_ok 2 ?_
        rw [show ((gRes 235).drop 59).take 2 = [.iload 3, .ifCond .ne 67] from rfl]
        simp (disch := omega) only [vs_ifCond, vs_iload3, vs_nil, gv_0, gv_1, gv_2, gv_3, pv_0, pv_1, va_rf_s, Nat.reduceDiv, Nat.reduceMod, Nat.reduceAdd, Nat.reduceMul, Int.reduceToNat, true_and, and_true, and_self, cP_eq, cP_ne, cP_lt, cP_ge, cP_gt, cP_le, eL_i, eL_l, eL_r, eL_n, Option.toList_none, Option.toList_some, List.nil_append, List.cons_append, kkI, llI, nnI, rrI, jjI, kkJ, llJ, nnJ, rrJ, iiJ, zIIs, zJJs, nEF, nET, and_false, false_and, jmin, jmax, catS_n, catS_i, catS_r, catS_l, Nat.reduceLeDiff, j1eq1, n21, jt0, jt1, Bool.false_eq_true, Classical.not_not, true_or, or_true, false_or, or_false, true_imp_iff, false_imp_iff, not_true_eq_false, not_false_eq_true, jif0, jif1, jifb, ltT, ltF, leT, leF, eqT, eqF, jlt, jle, jeq, jlt0, jle0, jeq0, jge0, jgt0, jinB, jnat, clt, cle, ceq, cgt, cge, lI_add, lI_sub, lI_mul, jadd, jsub, jmul, jneg, jtol, b010, b011, pv_2t, Int.toNat_natCast, Option.some.injEq, exists_eq_left', if_true, if_false]
        refine vs_ok 2 ?_
        rw [show ((gRes 235).drop 67).take 2 = [.iinc 2 1, .goto 15] from rfl]
        simp (disch := omega) only [vs_goto, vs_iinc2n, vs_iinc2i, vs_iinc2r, vs_iinc2l, vs_nil, gv_0, gv_1, gv_2, gv_3, pv_0, pv_1, va_rf_s, Nat.reduceDiv, Nat.reduceMod, Nat.reduceAdd, Nat.reduceMul, Int.reduceToNat, true_and, and_true, and_self, cP_eq, cP_ne, cP_lt, cP_ge, cP_gt, cP_le, eL_i, eL_l, eL_r, eL_n, Option.toList_none, Option.toList_some, List.nil_append, List.cons_append, kkI, llI, nnI, rrI, jjI, kkJ, llJ, nnJ, rrJ, iiJ, zIIs, zJJs, nEF, nET, and_false, false_and, jmin, jmax, catS_n, catS_i, catS_r, catS_l, Nat.reduceLeDiff, j1eq1, n21, jt0, jt1, Bool.false_eq_true, Classical.not_not, true_or, or_true, false_or, or_false, true_imp_iff, false_imp_iff, not_true_eq_false, not_false_eq_true, jif0, jif1, jifb, ltT, ltF, leT, leF, eqT, eqF, jlt, jle, jeq, jlt0, jle0, jeq0, jge0, jgt0, jinB, jnat, clt, cle, ceq, cgt, cge, lI_add, lI_sub, lI_mul, jadd, jsub, jmul, jneg, jtol, b010, b011, pv_2t, Int.toNat_natCast, Option.some.injEq, exists_eq_left', if_true, if_false]
        exact ih (b + 1) _ _ (by omega) (by omega) h1 h2
      · rw [if_pos (by unfold noB; rw [Bool.eq_false_iff.mpr c]; rfl)] at ef
        rw [if_neg c]
        refine vs_ok 2 ?_
        rw [show ((gRes 235).drop 59).take 2 = [.iload 3, .ifCond .ne 67] from rfl]
        simp (disch := omega) only [vs_ifCond, vs_iload3, vs_nil, gv_0, gv_1, gv_2, gv_3, pv_0, pv_1, va_rf_s, Nat.reduceDiv, Nat.reduceMod, Nat.reduceAdd, Nat.reduceMul, Int.reduceToNat, true_and, and_true, and_self, cP_eq, cP_ne, cP_lt, cP_ge, cP_gt, cP_le, eL_i, eL_l, eL_r, eL_n, Option.toList_none, Option.toList_some, List.nil_append, List.cons_append, kkI, llI, nnI, rrI, jjI, kkJ, llJ, nnJ, rrJ, iiJ, zIIs, zJJs, nEF, nET, and_false, false_and, jmin, jmax, catS_n, catS_i, catS_r, catS_l, Nat.reduceLeDiff, j1eq1, n21, jt0, jt1, Bool.false_eq_true, Classical.not_not, true_or, or_true, false_or, or_false, true_imp_iff, false_imp_iff, not_true_eq_false, not_false_eq_true, jif0, jif1, jifb, ltT, ltF, leT, leF, eqT, eqF, jlt, jle, jeq, jlt0, jle0, jeq0, jge0, jgt0, jinB, jnat, clt, cle, ceq, cgt, cge, lI_add, lI_sub, lI_mul, jadd, jsub, jmul, jneg, jtol, b010, b011, pv_2t, Int.toNat_natCast, Option.some.injEq, exists_eq_left', if_true, if_false]
        refine vs_ok 6 ?_
        rw [show ((gRes 235).drop 61).take 6 = [.iconst 100, .iload 1, .imul, .iload 2, .iadd, .ireturn] from rfl]
        simp (disch := omega) only [vs_iadd, vs_imul, vs_iconst, vs_ireturn, vs_iload1, vs_iload2, vs_nil, gv_0, gv_1, gv_2, gv_3, pv_0, pv_1, va_rf_s, Nat.reduceDiv, Nat.reduceMod, Nat.reduceAdd, Nat.reduceMul, Int.reduceToNat, true_and, and_true, and_self, cP_eq, cP_ne, cP_lt, cP_ge, cP_gt, cP_le, eL_i, eL_l, eL_r, eL_n, Option.toList_none, Option.toList_some, List.nil_append, List.cons_append, kkI, llI, nnI, rrI, jjI, kkJ, llJ, nnJ, rrJ, iiJ, zIIs, zJJs, nEF, nET, and_false, false_and, jmin, jmax, catS_n, catS_i, catS_r, catS_l, Nat.reduceLeDiff, j1eq1, n21, jt0, jt1, Bool.false_eq_true, Classical.not_not, true_or, or_true, false_or, or_false, true_imp_iff, false_imp_iff, not_true_eq_false, not_false_eq_true, jif0, jif1, jifb, ltT, ltF, leT, leF, eqT, eqF, jlt, jle, jeq, jlt0, jle0, jeq0, jge0, jgt0, jinB, jnat, clt, cle, ceq, cgt, cge, lI_add, lI_sub, lI_mul, jadd, jsub, jmul, jneg, jtol, b010, b011, pv_2t, Int.toNat_natCast, Option.some.injEq, exists_eq_left', if_true, if_false, show gRc 235 = 1 from rfl]
        exact h1 b ef
  have la : ∀ (k a : Nat) (o2 o3 o4 : Option Value), k + a = nm → fA (noB bt nm) nm k a = fA (noB bt nm) nm nm 0 → PW d 235 5 [some (.ref m), some (.int (iI a)), o2, o3, o4] [] g Q := by
    intro k
    induction k with
    | zero =>
      intro a o2 o3 o4 hk hf
      rw [← hf] at q
      refine vs_ok 6 ?_
      rw [show ((gRes 235).drop 5).take 6 = [.iload 1, .aload 0, .getfield 12112, .iconst 0, .iaload, .if_icmp .ge 71] from rfl]
      simp (disch := omega) only [vs_iconst, vs_if_icmp, vs_getfield, vs_iaload, vs_aload0, vs_iload1, vs_nil, gv_0, gv_1, gv_2, gv_3, pv_0, pv_1, va_rf_s, Nat.reduceDiv, Nat.reduceMod, Nat.reduceAdd, Nat.reduceMul, Int.reduceToNat, true_and, and_true, and_self, cP_eq, cP_ne, cP_lt, cP_ge, cP_gt, cP_le, eL_i, eL_l, eL_r, eL_n, Option.toList_none, Option.toList_some, List.nil_append, List.cons_append, kkI, llI, nnI, rrI, jjI, kkJ, llJ, nnJ, rrJ, iiJ, zIIs, zJJs, nEF, nET, and_false, false_and, jmin, jmax, catS_n, catS_i, catS_r, catS_l, Nat.reduceLeDiff, j1eq1, n21, jt0, jt1, Bool.false_eq_true, Classical.not_not, true_or, or_true, false_or, or_false, true_imp_iff, false_imp_iff, not_true_eq_false, not_false_eq_true, jif0, jif1, jifb, ltT, ltF, leT, leF, eqT, eqF, jlt, jle, jeq, jlt0, jle0, jeq0, jge0, jgt0, jinB, jnat, clt, cle, ceq, cgt, cge, lI_add, lI_sub, lI_mul, jadd, jsub, jmul, jneg, jtol, b010, b011, pv_2t, Int.toNat_natCast, Option.some.injEq, exists_eq_left', if_true, if_false, M1, A, n7]
      refine vs_ok 2 ?_
      rw [show ((gRes 235).drop 71).take 2 = [.iconst (-1), .ireturn] from rfl]
      simp (disch := omega) only [vs_iconst, vs_ireturn, vs_nil, gv_0, gv_1, gv_2, gv_3, pv_0, pv_1, va_rf_s, Nat.reduceDiv, Nat.reduceMod, Nat.reduceAdd, Nat.reduceMul, Int.reduceToNat, true_and, and_true, and_self, cP_eq, cP_ne, cP_lt, cP_ge, cP_gt, cP_le, eL_i, eL_l, eL_r, eL_n, Option.toList_none, Option.toList_some, List.nil_append, List.cons_append, kkI, llI, nnI, rrI, jjI, kkJ, llJ, nnJ, rrJ, iiJ, zIIs, zJJs, nEF, nET, and_false, false_and, jmin, jmax, catS_n, catS_i, catS_r, catS_l, Nat.reduceLeDiff, j1eq1, n21, jt0, jt1, Bool.false_eq_true, Classical.not_not, true_or, or_true, false_or, or_false, true_imp_iff, false_imp_iff, not_true_eq_false, not_false_eq_true, jif0, jif1, jifb, ltT, ltF, leT, leF, eqT, eqF, jlt, jle, jeq, jlt0, jle0, jeq0, jge0, jgt0, jinB, jnat, clt, cle, ceq, cgt, cge, lI_add, lI_sub, lI_mul, jadd, jsub, jmul, jneg, jtol, b010, b011, pv_2t, Int.toNat_natCast, Option.some.injEq, exists_eq_left', if_true, if_false, show gRc 235 = 1 from rfl]
      exact q
    | succ k ih =>
      intro a o2 o3 o4 hk hf
      have ef : fA (noB bt nm) nm (k + 1) a = match fB (noB bt nm a) (nm - (a + 1)) (a + 1) with
        | some b => some (a, b)
        | none => fA (noB bt nm) nm k (a + 1) := rfl
      refine vs_ok 6 ?_
      rw [show ((gRes 235).drop 5).take 6 = [.iload 1, .aload 0, .getfield 12112, .iconst 0, .iaload, .if_icmp .ge 71] from rfl]
      simp (disch := omega) only [vs_iconst, vs_if_icmp, vs_getfield, vs_iaload, vs_aload0, vs_iload1, vs_nil, gv_0, gv_1, gv_2, gv_3, pv_0, pv_1, va_rf_s, Nat.reduceDiv, Nat.reduceMod, Nat.reduceAdd, Nat.reduceMul, Int.reduceToNat, true_and, and_true, and_self, cP_eq, cP_ne, cP_lt, cP_ge, cP_gt, cP_le, eL_i, eL_l, eL_r, eL_n, Option.toList_none, Option.toList_some, List.nil_append, List.cons_append, kkI, llI, nnI, rrI, jjI, kkJ, llJ, nnJ, rrJ, iiJ, zIIs, zJJs, nEF, nET, and_false, false_and, jmin, jmax, catS_n, catS_i, catS_r, catS_l, Nat.reduceLeDiff, j1eq1, n21, jt0, jt1, Bool.false_eq_true, Classical.not_not, true_or, or_true, false_or, or_false, true_imp_iff, false_imp_iff, not_true_eq_false, not_false_eq_true, jif0, jif1, jifb, ltT, ltF, leT, leF, eqT, eqF, jlt, jle, jeq, jlt0, jle0, jeq0, jge0, jgt0, jinB, jnat, clt, cle, ceq, cgt, cge, lI_add, lI_sub, lI_mul, jadd, jsub, jmul, jneg, jtol, b010, b011, pv_2t, Int.toNat_natCast, Option.some.injEq, exists_eq_left', if_true, if_false, M1, A, n7]
      refine vs_ok 4 ?_
      rw [show ((gRes 235).drop 11).take 4 = [.iload 1, .iconst 1, .iadd, .istore 2] from rfl]
      simp (disch := omega) only [vs_iadd, vs_iconst, vs_iload1, vs_istore2n, vs_istore2i, vs_istore2r, vs_istore2l, vs_nil, gv_0, gv_1, gv_2, gv_3, pv_0, pv_1, va_rf_s, Nat.reduceDiv, Nat.reduceMod, Nat.reduceAdd, Nat.reduceMul, Int.reduceToNat, true_and, and_true, and_self, cP_eq, cP_ne, cP_lt, cP_ge, cP_gt, cP_le, eL_i, eL_l, eL_r, eL_n, Option.toList_none, Option.toList_some, List.nil_append, List.cons_append, kkI, llI, nnI, rrI, jjI, kkJ, llJ, nnJ, rrJ, iiJ, zIIs, zJJs, nEF, nET, and_false, false_and, jmin, jmax, catS_n, catS_i, catS_r, catS_l, Nat.reduceLeDiff, j1eq1, n21, jt0, jt1, Bool.false_eq_true, Classical.not_not, true_or, or_true, false_or, or_false, true_imp_iff, false_imp_iff, not_true_eq_false, not_false_eq_true, jif0, jif1, jifb, ltT, ltF, leT, leF, eqT, eqF, jlt, jle, jeq, jlt0, jle0, jeq0, jge0, jgt0, jinB, jnat, clt, cle, ceq, cgt, cge, lI_add, lI_sub, lI_mul, jadd, jsub, jmul, jneg, jtol, b010, b011, pv_2t, Int.toNat_natCast, Option.some.injEq, exists_eq_left', if_true, if_false]
      refine lb a (by omega) (nm - (a + 1)) (a + 1) _ _ (by omega) (by omega) (fun x e => ?_) (fun e o o3 o4 => ?_)
      · rw [e] at ef
        rw [← hf, ef] at q
        exact q
      · rw [e] at ef
        rw [ef] at hf
        refine vs_ok 2 ?_
        rw [show ((gRes 235).drop 69).take 2 = [.iinc 1 1, .goto 5] from rfl]
        simp (disch := omega) only [vs_goto, vs_iinc1n, vs_iinc1i, vs_iinc1r, vs_iinc1l, vs_nil, gv_0, gv_1, gv_2, gv_3, pv_0, pv_1, va_rf_s, Nat.reduceDiv, Nat.reduceMod, Nat.reduceAdd, Nat.reduceMul, Int.reduceToNat, true_and, and_true, and_self, cP_eq, cP_ne, cP_lt, cP_ge, cP_gt, cP_le, eL_i, eL_l, eL_r, eL_n, Option.toList_none, Option.toList_some, List.nil_append, List.cons_append, kkI, llI, nnI, rrI, jjI, kkJ, llJ, nnJ, rrJ, iiJ, zIIs, zJJs, nEF, nET, and_false, false_and, jmin, jmax, catS_n, catS_i, catS_r, catS_l, Nat.reduceLeDiff, j1eq1, n21, jt0, jt1, Bool.false_eq_true, Classical.not_not, true_or, or_true, false_or, or_false, true_imp_iff, false_imp_iff, not_true_eq_false, not_false_eq_true, jif0, jif1, jifb, ltT, ltF, leT, leF, eqT, eqF, jlt, jle, jeq, jlt0, jle0, jeq0, jge0, jgt0, jinB, jnat, clt, cle, ceq, cgt, cge, lI_add, lI_sub, lI_mul, jadd, jsub, jmul, jneg, jtol, b010, b011, pv_2t, Int.toNat_natCast, Option.some.injEq, exists_eq_left', if_true, if_false]
        exact ih (a + 1) o o3 o4 (by omega) hf
  exact la nm 0 none none none (by omega) rfl
