/-! the Model: pairings -/
set_option maxRecDepth 100000 in
theorem pcX : ∀ r, r < 128 → ∀ j, j < 7 → r.testBit j = true → pcN (r ^^^ 2 ^ j) 12 + 1 = pcN r 12 ∧ r ^^^ 2 ^ j < r := by decide +kernel
set_option maxRecDepth 100000 in
theorem pcY : ∀ r, r < 128 → 0 < r → r &&& (r - 1) < 128 ∧ r.testBit (lwF r 6 0) = true ∧ r &&& (r - 1) = r ^^^ 2 ^ (lwF r 6 0) ∧ lwF r 6 0 < 7 ∧ ∀ j, j < 7 → (r &&& (r - 1)).testBit j = (r.testBit j && decide (lwF r 6 0 < j)) := by decide +kernel
theorem pS2_congr {S P P' : Nat → Int} {f rest : Nat} : ∀ (k j : Nat) (s acc : Int), (∀ i, j ≤ i → i < j + k → rest.testBit i = true → P (rest ^^^ 2 ^ i) = P' (rest ^^^ 2 ^ i)) → pS2 S P f rest k j s acc = pS2 S P' f rest k j s acc
  | 0, _, _, _, _ => rfl
  | k + 1, j, s, acc, h => by
    unfold pS2
    by_cases c : rest.testBit j = true
    · rw [if_pos c, if_pos c, h j (Nat.le_refl _) (by omega) c]
      exact pS2_congr k (j + 1) _ _ fun i a b => h i (by omega) (by omega)
    · rw [if_neg c, if_neg c]
      exact pS2_congr k (j + 1) _ _ fun i a b => h i (by omega) (by omega)
theorem pfF_s {S : Nat → Int} : ∀ (d set : Nat), set < 128 → pcN set 12 ≤ 2 * d → pfF S d set = pfF S (d + 1) set
  | 0, set, h, hp => by
    have s0 : set = 0 := by
      by_cases c : 0 < set
      · have := pcN_pos set (by omega) c
        omega
      · omega
    subst s0
    rfl
  | d + 1, set, h, hp => by
    show (if set = 0 then 1 else pS2 S (pfF S d) (lwF set 6 0) (set &&& (set - 1)) (7 - (lwF set 6 0 + 1)) (lwF set 6 0 + 1) 1 0) = (if set = 0 then 1 else pS2 S (pfF S (d + 1)) (lwF set 6 0) (set &&& (set - 1)) (7 - (lwF set 6 0 + 1)) (lwF set 6 0 + 1) 1 0)
    by_cases c : set = 0
    · rw [if_pos c, if_pos c]
    · rw [if_neg c, if_neg c]
      have y := pcY set h (by omega)
      have a := pcN_and set (by omega) (by omega)
      refine pS2_congr _ _ _ _ fun i h1 h2 hb => ?_
      have x := pcX _ y.1 i (by omega) hb
      exact pfF_s d _ (by omega) (by omega)
theorem pfF_7 {S : Nat → Int} {set : Nat} (h : set < 128) : ∀ k d, d + k = 7 → pcN set 12 ≤ 2 * d → pfF S d set = pfF S 7 set
  | 0, d, e, _ => by rw [show d = 7 by omega]
  | k + 1, d, e, hp => by rw [pfF_s d set h hp, pfF_7 h k (d + 1) (by omega) (by omega)]
/-- what the Model keeps of each set of members -/
def prM (S : Nat → Int) (q : Nat) : Int := if q = 0 then 1 else if pcN q 12 % 2 = 1 then 0 else pfF S 7 q
theorem prM_even {S : Nat → Int} {q : Nat} (h : pcN q 12 % 2 = 0) : prM S q = pfF S 7 q := by
  unfold prM
  by_cases c : q = 0
  · rw [if_pos c, c]
    rfl
  · rw [if_neg c, if_neg (by omega)]
/-- the Model's members and their net -/
def mbN (h : Hp) (m n : Nat) (mem : Nat → Nat) (S : Nat → Int) : Prop := (∀ i, i < n → mem i < 12 ∧ zI h (m + 17) i = iI (mem i)) ∧ ∀ i j, i < n → j < n → zI h (m + 8) (12 * mem i + mem j) = iI (S (7 * i + j))
theorem mbN.fi {T : Nat → Prop} {h g : Hp} {m n : Nat} {mem : Nat → Nat} {S : Nat → Int} (b : mbN h m n mem S) (f : fi T h g) (h1 : ¬ T (m + 17)) (h2 : ¬ T (m + 8)) : mbN g m n mem S :=
  ⟨fun i hi => ⟨(b.1 i hi).1, by rw [f.1.2.2.2.2.2.1 _ h1]; exact (b.1 i hi).2⟩, fun i j hi hj => by rw [f.1.2.2.2.2.2.1 _ h2]; exact b.2 i j hi hj⟩
theorem jandn7 (e k : Nat) (he : e < 128) (hk : k < 7) : Int32.ofInt (e : Int) &&& (Int32.ofInt ((2 ^ k : Nat) : Int) ^^^ Int32.ofInt (-1)) = Int32.ofInt ((e &&& (4095 ^^^ 2 ^ k) : Nat) : Int) := jandn e (2 ^ k) (by omega) (p2_12 (by omega))
set_option maxRecDepth 100000 in
theorem clrX : ∀ r, r < 128 → ∀ j, j < 7 → r.testBit j = true → r &&& (4095 ^^^ 2 ^ j) = r ^^^ 2 ^ j := by decide +kernel
set_option maxRecDepth 100000 in
theorem clrY : ∀ r, r < 128 → ∀ j, j < 7 → r &&& (4095 ^^^ 2 ^ j) < 128 := by decide +kernel
set_option maxRecDepth 100000 in
theorem pcN_le7 : ∀ q, q < 128 → pcN q 12 ≤ 7 := by decide +kernel
theorem lwF_min (q : Nat) : ∀ k i j, i ≤ j → j < lwF q k i → q.testBit j = false
  | 0, i, j, h1, h2 => by
    have : j < i := h2
    omega
  | k + 1, i, j, h1, h2 => by
    unfold lwF at h2
    by_cases c : q.testBit i = true
    · rw [if_pos c] at h2
      omega
    · rw [if_neg c] at h2
      by_cases e : j = i
      · rw [e]
        exact Bool.eq_false_iff.mpr c
      · exact lwF_min q k (i + 1) j (by omega) h2
theorem t_M_pairings {d : Nat} {h : Hp} {m n q : Nat} {mem : Nat → Nat} {S : Nat → Int} {Q : Nat → Option Value → Hp → Prop} (hm : mO h m) (hn : n ≤ 7) (b : mbN h m n mem S) (hS : ∀ i, -1 ≤ S i ∧ S i ≤ 1) (hq2 : q < 2 ^ n) (h0 : 0 < q) (he : pcN q 12 % 2 = 0) (hp : ∀ i, i < q → zJ h (m + 18) i = lI (prM S i)) (hq : Q 0 (some (.long (lI (pfF S 7 q)))) h) : PR d m_M_pairings [.ref m, .int (iI q), .int (iI n)] h Q := by
  have M := hm.k
  have A8 := hm.net
  have A17 := hm.member
  have A18 := hm.pairing
  have p7 : 2 ^ n ≤ 2 ^ 7 := Nat.pow_le_pow_right (n := 2) (by omega) hn
  have q7 : q < 128 := by omega
  obtain ⟨y1, y2, y3, y4, y5⟩ := pcY q q7 h0
  have pa := pcN_and q (by omega) h0
  have fl : lwF q 6 0 < n := by
    by_cases c : lwF q 6 0 < n
    · exact c
    · have := Nat.testBit_lt_two_pow (Nat.lt_of_lt_of_le hq2 (Nat.pow_le_pow_right (n := 2) (by omega) (show n ≤ lwF q 6 0 by omega)))
      rw [this] at y2
      cases y2
  show PW d 237 0 [some (.ref m), some (.int (iI q)), some (.int (iI n)), none, none, none, none, none] [] h Q
  have e12 : ∀ a c : Nat, (12 : Int) * (a : Int) + (c : Int) = ((12 * a + c : Nat) : Int) := fun a c => by omega
  -- what is summed is the class's
  have go : ∀ (k j : Nat) (s acc : Int), k + j = n → lwF q 6 0 < j → (s = 1 ∨ s = -1) → pS2 S (pfF S 6) (lwF q 6 0) (q &&& (q - 1)) (7 - j) j s acc = pfF S 7 q → PW d 237 18 [some (.ref m), some (.int (iI q)), some (.int (iI n)), some (.int (iI (lwF q 6 0))), some (.long (lI acc)), none, some (.int (iI s)), some (.int (iI j))] [] h Q := by
    intro k
    induction k with
    | zero =>
      intro j s acc hj hl hs hF
      have e : j = n := by omega
      subst e
      have rest : ∀ k j s acc, (∀ i, j ≤ i → (q &&& (q - 1)).testBit i = false) → pS2 S (pfF S 6) (lwF q 6 0) (q &&& (q - 1)) k j s acc = acc := by
        intro k
        induction k with
        | zero => intros; rfl
        | succ k ih =>
          intro j s acc h
          unfold pS2
          rw [if_neg (by rw [h j (Nat.le_refl _)]; decide)]
          exact ih (j + 1) s acc fun i hi => h i (by omega)
      rw [rest _ _ _ _ fun i hi => by
        rw [Nat.testBit_and, Nat.testBit_lt_two_pow (Nat.lt_of_lt_of_le hq2 (Nat.pow_le_pow_right (n := 2) (by omega) hi)), Bool.false_and]] at hF
      rw [← hF] at hq
      refine vs_ok 3 ?_
      rw [show ((gRes 237).drop 18).take 3 = [.iload 7, .iload 2, .if_icmp .ge 70] from rfl]
      simp (disch := omega) only [vs_if_icmp, vs_iload2, vs_iload7, vs_nil, gv_0, gv_1, gv_2, gv_3, pv_0, pv_1, va_rf_s, Nat.reduceDiv, Nat.reduceMod, Nat.reduceAdd, Nat.reduceMul, Int.reduceToNat, true_and, and_true, and_self, cP_eq, cP_ne, cP_lt, cP_ge, cP_gt, cP_le, eL_i, eL_l, eL_r, eL_n, Option.toList_none, Option.toList_some, List.nil_append, List.cons_append, kkI, llI, nnI, rrI, jjI, kkJ, llJ, nnJ, rrJ, iiJ, zIIs, zJJs, nEF, nET, and_false, false_and, jmin, jmax, catS_n, catS_i, catS_r, catS_l, Nat.reduceLeDiff, j1eq1, n21, jt0, jt1, Bool.false_eq_true, Classical.not_not, true_or, or_true, false_or, or_false, true_imp_iff, false_imp_iff, not_true_eq_false, not_false_eq_true, jif0, jif1, jifb, ltT, ltF, leT, leF, eqT, eqF, jlt, jle, jeq, jlt0, jle0, jeq0, jge0, jgt0, jinB, jnat, clt, cle, ceq, cgt, cge, lI_add, lI_sub, lI_mul, jadd, jsub, jmul, jneg, jtol, b010, b011, pv_2t, Int.toNat_natCast, Option.some.injEq, exists_eq_left', if_true, if_false]
      refine vs_ok 2 ?_
      rw [show ((gRes 237).drop 70).take 2 = [.lload 4, .lreturn] from rfl]
      simp (disch := omega) only [vs_lreturn, vs_lload4, vs_nil, gv_0, gv_1, gv_2, gv_3, pv_0, pv_1, va_rf_s, Nat.reduceDiv, Nat.reduceMod, Nat.reduceAdd, Nat.reduceMul, Int.reduceToNat, true_and, and_true, and_self, cP_eq, cP_ne, cP_lt, cP_ge, cP_gt, cP_le, eL_i, eL_l, eL_r, eL_n, Option.toList_none, Option.toList_some, List.nil_append, List.cons_append, kkI, llI, nnI, rrI, jjI, kkJ, llJ, nnJ, rrJ, iiJ, zIIs, zJJs, nEF, nET, and_false, false_and, jmin, jmax, catS_n, catS_i, catS_r, catS_l, Nat.reduceLeDiff, j1eq1, n21, jt0, jt1, Bool.false_eq_true, Classical.not_not, true_or, or_true, false_or, or_false, true_imp_iff, false_imp_iff, not_true_eq_false, not_false_eq_true, jif0, jif1, jifb, ltT, ltF, leT, leF, eqT, eqF, jlt, jle, jeq, jlt0, jle0, jeq0, jge0, jgt0, jinB, jnat, clt, cle, ceq, cgt, cge, lI_add, lI_sub, lI_mul, jadd, jsub, jmul, jneg, jtol, b010, b011, pv_2t, Int.toNat_natCast, Option.some.injEq, exists_eq_left', if_true, if_false, show gRc 237 = 3 from rfl]
      exact hq
    | succ k ih =>
      intro j s acc hj hl hs hF
      rw [show 7 - j = (7 - (j + 1)) + 1 by omega] at hF
      have tb : (q &&& (q - 1)).testBit j = q.testBit j := by
        rw [y5 j (by omega), decide_eq_true hl, Bool.and_true]
      unfold pS2 at hF
      rw [tb] at hF
      by_cases c : q.testBit j = true
      · rw [if_pos c] at hF
        have x := pcX _ y1 j (by omega) (by rw [tb]; exact c)
        have b1 := b.1 (lwF q 6 0) fl
        have b2 := b.1 j (by omega)
        have b3 := b.2 (lwF q 6 0) j fl (by omega)
        have sb := hS (7 * lwF q 6 0 + j)
        have c1 : q &&& (4095 ^^^ 2 ^ (lwF q 6 0)) = q &&& (q - 1) := by rw [clrX q q7 _ y4 y2, y3]
        have c2 : (q &&& (q - 1)) &&& (4095 ^^^ 2 ^ j) = (q &&& (q - 1)) ^^^ 2 ^ j := clrX _ y1 j (by omega) (by rw [tb]; exact c)
        have pv := hp ((q &&& (q - 1)) ^^^ 2 ^ j) (by omega)
        have l12 := pcN_le q 12
        rw [prM_even (by omega), ← pfF_7 (S := S) (show (q &&& (q - 1)) ^^^ 2 ^ j < 128 by omega) 1 6 rfl (by
          have := pcN_le7 q q7
          omega)] at pv
        have ss : -1 ≤ s * S (7 * lwF q 6 0 + j) ∧ s * S (7 * lwF q 6 0 + j) ≤ 1 := by
          rcases hs with z | z <;> subst z <;> omega
        have nx := ih (j + 1) (-s) (acc + s * S (7 * lwF q 6 0 + j) * pfF S 6 ((q &&& (q - 1)) ^^^ 2 ^ j)) (by omega) (by omega) (by omega) hF
        generalize lwF q 6 0 = f at *
        generalize hr : (q &&& (q - 1)) = r at *
        generalize r ^^^ 2 ^ j = r2 at *
        generalize pfF S 6 r2 = pf at *
        generalize S (7 * f + j) = sv at *
        generalize hM : s * sv = sm0 at *
        have r2b : r2 < 128 := by omega
        refine vs_ok 3 ?_
        rw [show ((gRes 237).drop 18).take 3 = [.iload 7, .iload 2, .if_icmp .ge 70] from rfl]
        simp (disch := omega) only [vs_if_icmp, vs_iload2, vs_iload7, vs_nil, gv_0, gv_1, gv_2, gv_3, pv_0, pv_1, va_rf_s, Nat.reduceDiv, Nat.reduceMod, Nat.reduceAdd, Nat.reduceMul, Int.reduceToNat, true_and, and_true, and_self, cP_eq, cP_ne, cP_lt, cP_ge, cP_gt, cP_le, eL_i, eL_l, eL_r, eL_n, Option.toList_none, Option.toList_some, List.nil_append, List.cons_append, kkI, llI, nnI, rrI, jjI, kkJ, llJ, nnJ, rrJ, iiJ, zIIs, zJJs, nEF, nET, and_false, false_and, jmin, jmax, catS_n, catS_i, catS_r, catS_l, Nat.reduceLeDiff, j1eq1, n21, jt0, jt1, Bool.false_eq_true, Classical.not_not, true_or, or_true, false_or, or_false, true_imp_iff, false_imp_iff, not_true_eq_false, not_false_eq_true, jif0, jif1, jifb, ltT, ltF, leT, leF, eqT, eqF, jlt, jle, jeq, jlt0, jle0, jeq0, jge0, jgt0, jinB, jnat, clt, cle, ceq, cgt, cge, lI_add, lI_sub, lI_mul, jadd, jsub, jmul, jneg, jtol, b010, b011, pv_2t, Int.toNat_natCast, Option.some.injEq, exists_eq_left', if_true, if_false]
        refine vs_ok 6 ?_
        rw [show ((gRes 237).drop 21).take 6 = [.iload 1, .iload 7, .ishr, .iconst 1, .iand, .ifCond .ne 28] from rfl]
        simp (disch := omega) only [vs_iconst, vs_ifCond, vs_iload1, vs_iload7, vs_nil, gv_0, gv_1, gv_2, gv_3, pv_0, pv_1, va_rf_s, vs_iand, vs_ishr, Nat.reduceDiv, Nat.reduceMod, Nat.reduceAdd, Nat.reduceMul, Int.reduceToNat, true_and, and_true, and_self, cP_eq, cP_ne, cP_lt, cP_ge, cP_gt, cP_le, eL_i, eL_l, eL_r, eL_n, Option.toList_none, Option.toList_some, List.nil_append, List.cons_append, kkI, llI, nnI, rrI, jjI, kkJ, llJ, nnJ, rrJ, iiJ, zIIs, zJJs, nEF, nET, and_false, false_and, jmin, jmax, catS_n, catS_i, catS_r, catS_l, Nat.reduceLeDiff, j1eq1, n21, jt0, jt1, Bool.false_eq_true, Classical.not_not, true_or, or_true, false_or, or_false, true_imp_iff, false_imp_iff, not_true_eq_false, not_false_eq_true, jif0, jif1, jifb, ltT, ltF, leT, leF, eqT, eqF, jlt, jle, jeq, jlt0, jle0, jeq0, jge0, jgt0, jinB, jnat, clt, cle, ceq, cgt, cge, lI_add, lI_sub, lI_mul, jadd, jsub, jmul, jneg, jtol, b010, b011, pv_2t, Int.toNat_natCast, Option.some.injEq, exists_eq_left', if_true, if_false, jbit, c]
        refine vs_ok 16 ?_
        rw [show ((gRes 237).drop 28).take 16 = [.lload 4, .iload 6, .aload 0, .getfield 12122, .iconst 12, .aload 0, .getfield 12292, .iload 3, .iaload, .imul, .aload 0, .getfield 12292, .iload 7, .iaload, .iadd, .iaload] from rfl]
        simp (disch := omega) only [vs_iadd, vs_imul, vs_iconst, vs_getfield, vs_iaload, vs_aload0, vs_iload3, vs_lload4, vs_iload6, vs_iload7, vs_nil, gv_0, gv_1, gv_2, gv_3, pv_0, pv_1, va_rf_s, Nat.reduceDiv, Nat.reduceMod, Nat.reduceAdd, Nat.reduceMul, Int.reduceToNat, true_and, and_true, and_self, cP_eq, cP_ne, cP_lt, cP_ge, cP_gt, cP_le, eL_i, eL_l, eL_r, eL_n, Option.toList_none, Option.toList_some, List.nil_append, List.cons_append, kkI, llI, nnI, rrI, jjI, kkJ, llJ, nnJ, rrJ, iiJ, zIIs, zJJs, nEF, nET, and_false, false_and, jmin, jmax, catS_n, catS_i, catS_r, catS_l, Nat.reduceLeDiff, j1eq1, n21, jt0, jt1, Bool.false_eq_true, Classical.not_not, true_or, or_true, false_or, or_false, true_imp_iff, false_imp_iff, not_true_eq_false, not_false_eq_true, jif0, jif1, jifb, ltT, ltF, leT, leF, eqT, eqF, jlt, jle, jeq, jlt0, jle0, jeq0, jge0, jgt0, jinB, jnat, clt, cle, ceq, cgt, cge, lI_add, lI_sub, lI_mul, jadd, jsub, jmul, jneg, jtol, b010, b011, pv_2t, Int.toNat_natCast, Option.some.injEq, exists_eq_left', if_true, if_false, M, A8, A17, b1.2, b2.2, e12, b3]
        refine vs_ok 4 ?_
        rw [show ((gRes 237).drop 44).take 4 = [.imul, .i2l, .aload 0, .getfield 12302] from rfl]
        simp (disch := omega) only [vs_imul, vs_i2l, vs_getfield, vs_aload0, vs_nil, gv_0, gv_1, gv_2, gv_3, pv_0, pv_1, va_rf_s, Nat.reduceDiv, Nat.reduceMod, Nat.reduceAdd, Nat.reduceMul, Int.reduceToNat, true_and, and_true, and_self, cP_eq, cP_ne, cP_lt, cP_ge, cP_gt, cP_le, eL_i, eL_l, eL_r, eL_n, Option.toList_none, Option.toList_some, List.nil_append, List.cons_append, kkI, llI, nnI, rrI, jjI, kkJ, llJ, nnJ, rrJ, iiJ, zIIs, zJJs, nEF, nET, and_false, false_and, jmin, jmax, catS_n, catS_i, catS_r, catS_l, Nat.reduceLeDiff, j1eq1, n21, jt0, jt1, Bool.false_eq_true, Classical.not_not, true_or, or_true, false_or, or_false, true_imp_iff, false_imp_iff, not_true_eq_false, not_false_eq_true, jif0, jif1, jifb, ltT, ltF, leT, leF, eqT, eqF, jlt, jle, jeq, jlt0, jle0, jeq0, jge0, jgt0, jinB, jnat, clt, cle, ceq, cgt, cge, lI_add, lI_sub, lI_mul, jadd, jsub, jmul, jneg, jtol, b010, b011, pv_2t, Int.toNat_natCast, Option.some.injEq, exists_eq_left', if_true, if_false, M, A18, hM]
        refine vs_ok 13 ?_
        rw [show ((gRes 237).drop 48).take 13 = [.iload 1, .iconst 1, .iload 3, .ishl, .iconst (-1), .ixor, .iand, .iconst 1, .iload 7, .ishl, .iconst (-1), .ixor, .iand] from rfl]
        simp (disch := omega) only [vs_iconst, vs_iload1, vs_iload3, vs_iload7, vs_nil, gv_0, gv_1, gv_2, gv_3, pv_0, pv_1, va_rf_s, vs_iand, vs_ixor, vs_ishl, Nat.reduceDiv, Nat.reduceMod, Nat.reduceAdd, Nat.reduceMul, Int.reduceToNat, true_and, and_true, and_self, cP_eq, cP_ne, cP_lt, cP_ge, cP_gt, cP_le, eL_i, eL_l, eL_r, eL_n, Option.toList_none, Option.toList_some, List.nil_append, List.cons_append, kkI, llI, nnI, rrI, jjI, kkJ, llJ, nnJ, rrJ, iiJ, zIIs, zJJs, nEF, nET, and_false, false_and, jmin, jmax, catS_n, catS_i, catS_r, catS_l, Nat.reduceLeDiff, j1eq1, n21, jt0, jt1, Bool.false_eq_true, Classical.not_not, true_or, or_true, false_or, or_false, true_imp_iff, false_imp_iff, not_true_eq_false, not_false_eq_true, jif0, jif1, jifb, ltT, ltF, leT, leF, eqT, eqF, jlt, jle, jeq, jlt0, jle0, jeq0, jge0, jgt0, jinB, jnat, clt, cle, ceq, cgt, cge, lI_add, lI_sub, lI_mul, jadd, jsub, jmul, jneg, jtol, b010, b011, pv_2t, Int.toNat_natCast, Option.some.injEq, exists_eq_left', if_true, if_false, jshl1, jandn7, c1, c2]
        refine vs_ok 7 ?_
        rw [show ((gRes 237).drop 61).take 7 = [.laload, .lmul, .ladd, .lstore 4, .iload 6, .ineg, .istore 6] from rfl]
        simp (disch := omega) only [vs_ladd, vs_lmul, vs_laload, vs_lstore4n, vs_lstore4i, vs_lstore4r, vs_lstore4l, vs_iload6, vs_istore6n, vs_istore6i, vs_istore6r, vs_istore6l, vs_nil, gv_0, gv_1, gv_2, gv_3, pv_0, pv_1, va_rf_s, vs_ineg, Nat.reduceDiv, Nat.reduceMod, Nat.reduceAdd, Nat.reduceMul, Int.reduceToNat, true_and, and_true, and_self, cP_eq, cP_ne, cP_lt, cP_ge, cP_gt, cP_le, eL_i, eL_l, eL_r, eL_n, Option.toList_none, Option.toList_some, List.nil_append, List.cons_append, kkI, llI, nnI, rrI, jjI, kkJ, llJ, nnJ, rrJ, iiJ, zIIs, zJJs, nEF, nET, and_false, false_and, jmin, jmax, catS_n, catS_i, catS_r, catS_l, Nat.reduceLeDiff, j1eq1, n21, jt0, jt1, Bool.false_eq_true, Classical.not_not, true_or, or_true, false_or, or_false, true_imp_iff, false_imp_iff, not_true_eq_false, not_false_eq_true, jif0, jif1, jifb, ltT, ltF, leT, leF, eqT, eqF, jlt, jle, jeq, jlt0, jle0, jeq0, jge0, jgt0, jinB, jnat, clt, cle, ceq, cgt, cge, lI_add, lI_sub, lI_mul, jadd, jsub, jmul, jneg, jtol, b010, b011, pv_2t, Int.toNat_natCast, Option.some.injEq, exists_eq_left', if_true, if_false, A18, pv]
        refine vs_ok 2 ?_
        rw [show ((gRes 237).drop 68).take 2 = [.iinc 7 1, .goto 18] from rfl]
        simp (disch := omega) only [vs_goto, vs_iinc7n, vs_iinc7i, vs_iinc7r, vs_iinc7l, vs_nil, gv_0, gv_1, gv_2, gv_3, pv_0, pv_1, va_rf_s, Nat.reduceDiv, Nat.reduceMod, Nat.reduceAdd, Nat.reduceMul, Int.reduceToNat, true_and, and_true, and_self, cP_eq, cP_ne, cP_lt, cP_ge, cP_gt, cP_le, eL_i, eL_l, eL_r, eL_n, Option.toList_none, Option.toList_some, List.nil_append, List.cons_append, kkI, llI, nnI, rrI, jjI, kkJ, llJ, nnJ, rrJ, iiJ, zIIs, zJJs, nEF, nET, and_false, false_and, jmin, jmax, catS_n, catS_i, catS_r, catS_l, Nat.reduceLeDiff, j1eq1, n21, jt0, jt1, Bool.false_eq_true, Classical.not_not, true_or, or_true, false_or, or_false, true_imp_iff, false_imp_iff, not_true_eq_false, not_false_eq_true, jif0, jif1, jifb, ltT, ltF, leT, leF, eqT, eqF, jlt, jle, jeq, jlt0, jle0, jeq0, jge0, jgt0, jinB, jnat, clt, cle, ceq, cgt, cge, lI_add, lI_sub, lI_mul, jadd, jsub, jmul, jneg, jtol, b010, b011, pv_2t, Int.toNat_natCast, Option.some.injEq, exists_eq_left', if_true, if_false]
        exact nx
      · rw [if_neg c] at hF
        refine vs_ok 3 ?_
        rw [show ((gRes 237).drop 18).take 3 = [.iload 7, .iload 2, .if_icmp .ge 70] from rfl]
        simp (disch := omega) only [vs_if_icmp, vs_iload2, vs_iload7, vs_nil, gv_0, gv_1, gv_2, gv_3, pv_0, pv_1, va_rf_s, Nat.reduceDiv, Nat.reduceMod, Nat.reduceAdd, Nat.reduceMul, Int.reduceToNat, true_and, and_true, and_self, cP_eq, cP_ne, cP_lt, cP_ge, cP_gt, cP_le, eL_i, eL_l, eL_r, eL_n, Option.toList_none, Option.toList_some, List.nil_append, List.cons_append, kkI, llI, nnI, rrI, jjI, kkJ, llJ, nnJ, rrJ, iiJ, zIIs, zJJs, nEF, nET, and_false, false_and, jmin, jmax, catS_n, catS_i, catS_r, catS_l, Nat.reduceLeDiff, j1eq1, n21, jt0, jt1, Bool.false_eq_true, Classical.not_not, true_or, or_true, false_or, or_false, true_imp_iff, false_imp_iff, not_true_eq_false, not_false_eq_true, jif0, jif1, jifb, ltT, ltF, leT, leF, eqT, eqF, jlt, jle, jeq, jlt0, jle0, jeq0, jge0, jgt0, jinB, jnat, clt, cle, ceq, cgt, cge, lI_add, lI_sub, lI_mul, jadd, jsub, jmul, jneg, jtol, b010, b011, pv_2t, Int.toNat_natCast, Option.some.injEq, exists_eq_left', if_true, if_false]
        refine vs_ok 6 ?_
        rw [show ((gRes 237).drop 21).take 6 = [.iload 1, .iload 7, .ishr, .iconst 1, .iand, .ifCond .ne 28] from rfl]
        simp (disch := omega) only [vs_iconst, vs_ifCond, vs_iload1, vs_iload7, vs_nil, gv_0, gv_1, gv_2, gv_3, pv_0, pv_1, va_rf_s, vs_iand, vs_ishr, Nat.reduceDiv, Nat.reduceMod, Nat.reduceAdd, Nat.reduceMul, Int.reduceToNat, true_and, and_true, and_self, cP_eq, cP_ne, cP_lt, cP_ge, cP_gt, cP_le, eL_i, eL_l, eL_r, eL_n, Option.toList_none, Option.toList_some, List.nil_append, List.cons_append, kkI, llI, nnI, rrI, jjI, kkJ, llJ, nnJ, rrJ, iiJ, zIIs, zJJs, nEF, nET, and_false, false_and, jmin, jmax, catS_n, catS_i, catS_r, catS_l, Nat.reduceLeDiff, j1eq1, n21, jt0, jt1, Bool.false_eq_true, Classical.not_not, true_or, or_true, false_or, or_false, true_imp_iff, false_imp_iff, not_true_eq_false, not_false_eq_true, jif0, jif1, jifb, ltT, ltF, leT, leF, eqT, eqF, jlt, jle, jeq, jlt0, jle0, jeq0, jge0, jgt0, jinB, jnat, clt, cle, ceq, cgt, cge, lI_add, lI_sub, lI_mul, jadd, jsub, jmul, jneg, jtol, b010, b011, pv_2t, Int.toNat_natCast, Option.some.injEq, exists_eq_left', if_true, if_false, jbit, c]
        refine vs_ok 1 ?_
        rw [show ((gRes 237).drop 27).take 1 = [.goto 68] from rfl]
        simp (disch := omega) only [vs_goto, vs_nil, gv_0, gv_1, gv_2, gv_3, pv_0, pv_1, va_rf_s, Nat.reduceDiv, Nat.reduceMod, Nat.reduceAdd, Nat.reduceMul, Int.reduceToNat, true_and, and_true, and_self, cP_eq, cP_ne, cP_lt, cP_ge, cP_gt, cP_le, eL_i, eL_l, eL_r, eL_n, Option.toList_none, Option.toList_some, List.nil_append, List.cons_append, kkI, llI, nnI, rrI, jjI, kkJ, llJ, nnJ, rrJ, iiJ, zIIs, zJJs, nEF, nET, and_false, false_and, jmin, jmax, catS_n, catS_i, catS_r, catS_l, Nat.reduceLeDiff, j1eq1, n21, jt0, jt1, Bool.false_eq_true, Classical.not_not, true_or, or_true, false_or, or_false, true_imp_iff, false_imp_iff, not_true_eq_false, not_false_eq_true, jif0, jif1, jifb, ltT, ltF, leT, leF, eqT, eqF, jlt, jle, jeq, jlt0, jle0, jeq0, jge0, jgt0, jinB, jnat, clt, cle, ceq, cgt, cge, lI_add, lI_sub, lI_mul, jadd, jsub, jmul, jneg, jtol, b010, b011, pv_2t, Int.toNat_natCast, Option.some.injEq, exists_eq_left', if_true, if_false]
        refine vs_ok 2 ?_
        rw [show ((gRes 237).drop 68).take 2 = [.iinc 7 1, .goto 18] from rfl]
        simp (disch := omega) only [vs_goto, vs_iinc7n, vs_iinc7i, vs_iinc7r, vs_iinc7l, vs_nil, gv_0, gv_1, gv_2, gv_3, pv_0, pv_1, va_rf_s, Nat.reduceDiv, Nat.reduceMod, Nat.reduceAdd, Nat.reduceMul, Int.reduceToNat, true_and, and_true, and_self, cP_eq, cP_ne, cP_lt, cP_ge, cP_gt, cP_le, eL_i, eL_l, eL_r, eL_n, Option.toList_none, Option.toList_some, List.nil_append, List.cons_append, kkI, llI, nnI, rrI, jjI, kkJ, llJ, nnJ, rrJ, iiJ, zIIs, zJJs, nEF, nET, and_false, false_and, jmin, jmax, catS_n, catS_i, catS_r, catS_l, Nat.reduceLeDiff, j1eq1, n21, jt0, jt1, Bool.false_eq_true, Classical.not_not, true_or, or_true, false_or, or_false, true_imp_iff, false_imp_iff, not_true_eq_false, not_false_eq_true, jif0, jif1, jifb, ltT, ltF, leT, leF, eqT, eqF, jlt, jle, jeq, jlt0, jle0, jeq0, jge0, jgt0, jinB, jnat, clt, cle, ceq, cgt, cge, lI_add, lI_sub, lI_mul, jadd, jsub, jmul, jneg, jtol, b010, b011, pv_2t, Int.toNat_natCast, Option.some.injEq, exists_eq_left', if_true, if_false]
        exact ih (j + 1) s acc (by omega) (by omega) hs hF
  have sc : ∀ (k i : Nat), k + i = lwF q 6 0 → (∀ j, j < i → q.testBit j = false) → PW d 237 2 [some (.ref m), some (.int (iI q)), some (.int (iI n)), some (.int (iI i)), none, none, none, none] [] h Q := by
    intro k
    induction k with
    | zero =>
      intro i hi hA
      have e : i = lwF q 6 0 := by omega
      subst e
      refine vs_ok 6 ?_
      rw [show ((gRes 237).drop 2).take 6 = [.iload 1, .iload 3, .ishr, .iconst 1, .iand, .ifCond .ne 10] from rfl]
      simp (disch := omega) only [vs_iconst, vs_ifCond, vs_iload1, vs_iload3, vs_nil, gv_0, gv_1, gv_2, gv_3, pv_0, pv_1, va_rf_s, vs_iand, vs_ishr, Nat.reduceDiv, Nat.reduceMod, Nat.reduceAdd, Nat.reduceMul, Int.reduceToNat, true_and, and_true, and_self, cP_eq, cP_ne, cP_lt, cP_ge, cP_gt, cP_le, eL_i, eL_l, eL_r, eL_n, Option.toList_none, Option.toList_some, List.nil_append, List.cons_append, kkI, llI, nnI, rrI, jjI, kkJ, llJ, nnJ, rrJ, iiJ, zIIs, zJJs, nEF, nET, and_false, false_and, jmin, jmax, catS_n, catS_i, catS_r, catS_l, Nat.reduceLeDiff, j1eq1, n21, jt0, jt1, Bool.false_eq_true, Classical.not_not, true_or, or_true, false_or, or_false, true_imp_iff, false_imp_iff, not_true_eq_false, not_false_eq_true, jif0, jif1, jifb, ltT, ltF, leT, leF, eqT, eqF, jlt, jle, jeq, jlt0, jle0, jeq0, jge0, jgt0, jinB, jnat, clt, cle, ceq, cgt, cge, lI_add, lI_sub, lI_mul, jadd, jsub, jmul, jneg, jtol, b010, b011, pv_2t, Int.toNat_natCast, Option.some.injEq, exists_eq_left', if_true, if_false, jbit, y2]
      refine vs_ok 8 ?_
      rw [show ((gRes 237).drop 10).take 8 = [.jsr_w 0, .lstore 4, .iconst 1, .istore 6, .iload 3, .iconst 1, .iadd, .istore 7] from rfl]
      simp (disch := omega) only [vs_iadd, vs_iconst, vs_jsr_w, vs_iload3, vs_lstore4n, vs_lstore4i, vs_lstore4r, vs_lstore4l, vs_istore6n, vs_istore6i, vs_istore6r, vs_istore6l, vs_istore7n, vs_istore7i, vs_istore7r, vs_istore7l, vs_nil, gv_0, gv_1, gv_2, gv_3, pv_0, pv_1, va_rf_s, Nat.reduceDiv, Nat.reduceMod, Nat.reduceAdd, Nat.reduceMul, Int.reduceToNat, true_and, and_true, and_self, cP_eq, cP_ne, cP_lt, cP_ge, cP_gt, cP_le, eL_i, eL_l, eL_r, eL_n, Option.toList_none, Option.toList_some, List.nil_append, List.cons_append, kkI, llI, nnI, rrI, jjI, kkJ, llJ, nnJ, rrJ, iiJ, zIIs, zJJs, nEF, nET, and_false, false_and, jmin, jmax, catS_n, catS_i, catS_r, catS_l, Nat.reduceLeDiff, j1eq1, n21, jt0, jt1, Bool.false_eq_true, Classical.not_not, true_or, or_true, false_or, or_false, true_imp_iff, false_imp_iff, not_true_eq_false, not_false_eq_true, jif0, jif1, jifb, ltT, ltF, leT, leF, eqT, eqF, jlt, jle, jeq, jlt0, jle0, jeq0, jge0, jgt0, jinB, jnat, clt, cle, ceq, cgt, cge, lI_add, lI_sub, lI_mul, jadd, jsub, jmul, jneg, jtol, b010, b011, pv_2t, Int.toNat_natCast, Option.some.injEq, exists_eq_left', if_true, if_false]
      have := go (n - (lwF q 6 0 + 1)) (lwF q 6 0 + 1) 1 0 (by omega) (by omega) (Or.inl rfl) (by
        show _ = (if q = 0 then 1 else pS2 S (pfF S 6) (lwF q 6 0) (q &&& (q - 1)) (7 - (lwF q 6 0 + 1)) (lwF q 6 0 + 1) 1 0)
        rw [if_neg (by omega)])
      exact this
    | succ k ih =>
      intro i hi hA
      have tb : ¬ q.testBit i = true := fun z => by
        have l := lwF_min q 6 0 i (by omega) (by omega)
        rw [z] at l
        cases l
      refine vs_ok 6 ?_
      rw [show ((gRes 237).drop 2).take 6 = [.iload 1, .iload 3, .ishr, .iconst 1, .iand, .ifCond .ne 10] from rfl]
      simp (disch := omega) only [vs_iconst, vs_ifCond, vs_iload1, vs_iload3, vs_nil, gv_0, gv_1, gv_2, gv_3, pv_0, pv_1, va_rf_s, vs_iand, vs_ishr, Nat.reduceDiv, Nat.reduceMod, Nat.reduceAdd, Nat.reduceMul, Int.reduceToNat, true_and, and_true, and_self, cP_eq, cP_ne, cP_lt, cP_ge, cP_gt, cP_le, eL_i, eL_l, eL_r, eL_n, Option.toList_none, Option.toList_some, List.nil_append, List.cons_append, kkI, llI, nnI, rrI, jjI, kkJ, llJ, nnJ, rrJ, iiJ, zIIs, zJJs, nEF, nET, and_false, false_and, jmin, jmax, catS_n, catS_i, catS_r, catS_l, Nat.reduceLeDiff, j1eq1, n21, jt0, jt1, Bool.false_eq_true, Classical.not_not, true_or, or_true, false_or, or_false, true_imp_iff, false_imp_iff, not_true_eq_false, not_false_eq_true, jif0, jif1, jifb, ltT, ltF, leT, leF, eqT, eqF, jlt, jle, jeq, jlt0, jle0, jeq0, jge0, jgt0, jinB, jnat, clt, cle, ceq, cgt, cge, lI_add, lI_sub, lI_mul, jadd, jsub, jmul, jneg, jtol, b010, b011, pv_2t, Int.toNat_natCast, Option.some.injEq, exists_eq_left', if_true, if_false, jbit, tb]
      refine vs_ok 2 ?_
      rw [show ((gRes 237).drop 8).take 2 = [.iinc 3 1, .goto 2] from rfl]
      simp (disch := omega) only [vs_goto, vs_iinc3n, vs_iinc3i, vs_iinc3r, vs_iinc3l, vs_nil, gv_0, gv_1, gv_2, gv_3, pv_0, pv_1, va_rf_s, Nat.reduceDiv, Nat.reduceMod, Nat.reduceAdd, Nat.reduceMul, Int.reduceToNat, true_and, and_true, and_self, cP_eq, cP_ne, cP_lt, cP_ge, cP_gt, cP_le, eL_i, eL_l, eL_r, eL_n, Option.toList_none, Option.toList_some, List.nil_append, List.cons_append, kkI, llI, nnI, rrI, jjI, kkJ, llJ, nnJ, rrJ, iiJ, zIIs, zJJs, nEF, nET, and_false, false_and, jmin, jmax, catS_n, catS_i, catS_r, catS_l, Nat.reduceLeDiff, j1eq1, n21, jt0, jt1, Bool.false_eq_true, Classical.not_not, true_or, or_true, false_or, or_false, true_imp_iff, false_imp_iff, not_true_eq_false, not_false_eq_true, jif0, jif1, jifb, ltT, ltF, leT, leF, eqT, eqF, jlt, jle, jeq, jlt0, jle0, jeq0, jge0, jgt0, jinB, jnat, clt, cle, ceq, cgt, cge, lI_add, lI_sub, lI_mul, jadd, jsub, jmul, jneg, jtol, b010, b011, pv_2t, Int.toNat_natCast, Option.some.injEq, exists_eq_left', if_true, if_false]
      exact ih (i + 1) (by omega) fun j hj => by
        by_cases y : j = i
        · rw [y]; exact Bool.eq_false_iff.mpr tb
        · exact hA j (by omega)
  refine vs_ok 2 ?_
  rw [show ((gRes 237).drop 0).take 2 = [.iconst 0, .istore 3] from rfl]
  simp (disch := omega) only [vs_iconst, vs_istore3n, vs_istore3i, vs_istore3r, vs_istore3l, vs_nil, gv_0, gv_1, gv_2, gv_3, pv_0, pv_1, va_rf_s, Nat.reduceDiv, Nat.reduceMod, Nat.reduceAdd, Nat.reduceMul, Int.reduceToNat, true_and, and_true, and_self, cP_eq, cP_ne, cP_lt, cP_ge, cP_gt, cP_le, eL_i, eL_l, eL_r, eL_n, Option.toList_none, Option.toList_some, List.nil_append, List.cons_append, kkI, llI, nnI, rrI, jjI, kkJ, llJ, nnJ, rrJ, iiJ, zIIs, zJJs, nEF, nET, and_false, false_and, jmin, jmax, catS_n, catS_i, catS_r, catS_l, Nat.reduceLeDiff, j1eq1, n21, jt0, jt1, Bool.false_eq_true, Classical.not_not, true_or, or_true, false_or, or_false, true_imp_iff, false_imp_iff, not_true_eq_false, not_false_eq_true, jif0, jif1, jifb, ltT, ltF, leT, leF, eqT, eqF, jlt, jle, jeq, jlt0, jle0, jeq0, jge0, jgt0, jinB, jnat, clt, cle, ceq, cgt, cge, lI_add, lI_sub, lI_mul, jadd, jsub, jmul, jneg, jtol, b010, b011, pv_2t, Int.toNat_natCast, Option.some.injEq, exists_eq_left', if_true, if_false]
  exact sc (lwF q 6 0) 0 (by omega) fun j hj => absurd hj (by omega)
