/-! the Model: holds, keep -/
theorem siN_pos {f : Nat → Int} : ∀ n : Nat, (∀ i, i < n → 0 ≤ f i) → 0 ≤ siN f n ∧ ((∃ j, j < n ∧ 0 < f j) → 0 < siN f n)
  | 0, _ => ⟨Int.le_refl _, fun ⟨j, hj, _⟩ => absurd hj (by omega)⟩
  | n + 1, h => by
    obtain ⟨a, b⟩ := siN_pos n fun i hi => h i (by omega)
    have c := h n (by omega)
    refine ⟨by show 0 ≤ siN f n + f n; omega, fun ⟨j, hj, hp⟩ => ?_⟩
    show 0 < siN f n + f n
    by_cases e : j = n
    · rw [e] at hp
      omega
    · have := b ⟨j, by omega, hp⟩
      omega
theorem siN_mul {f : Nat → Int} {c : Int} : ∀ n : Nat, siN (fun i => c * f i) n = c * siN f n
  | 0 => (Int.mul_zero c).symm
  | n + 1 => by
    show siN (fun i => c * f i) n + c * f n = c * (siN f n + f n)
    rw [siN_mul n, Int.mul_add]
/-- the weights before their sign is known -/
abbrev t0F (S : Nat → Int) (q i : Nat) : Int := if q.testBit i = true then raF S q i else 0
theorem t0F_b {S : Nat → Int} (hS : ∀ i, -1 ≤ S i ∧ S i ≤ 1) (q i : Nat) : -823543 ≤ t0F S q i ∧ t0F S q i ≤ 823543 := by
  unfold t0F
  split
  · exact raF_b hS q i
  · omega
theorem t_M_holds {d : Nat} {h : Hp} {m n q : Nat} {mem : Nat → Nat} {S : Nat → Int} {Q : Nat → Option Value → Hp → Prop} (hm : mO h m) (hn : n ≤ 7) (b : mbN h m n mem S) (hS : ∀ i, -1 ≤ S i ∧ S i ≤ 1) (hq2 : q < 2 ^ n) (h0 : 0 < q) (he : pcN q 12 % 2 = 1) (hp : ∀ i, i < 2 ^ n → zJ h (m + 18) i = lI (prM S i))
    (hq1 : ∀ T, wgP S q T → stP n S T → ∀ g, fi (fun q => q = m + 20) h g → (∀ k, k < n → zJ g (m + 20) k = lI (T k)) → Q 0 (some (.int (iI 1))) g)
    (hq0 : (∀ T, ¬ (wgP S q T ∧ stP n S T)) → ∀ g, fi (fun q => q = m + 20) h g → Q 0 (some (.int (iI 0))) g) : PR d m_M_holds [.ref m, .int (iI q), .int (iI n)] h Q := by
  have p7 : 2 ^ n ≤ 2 ^ 7 := Nat.pow_le_pow_right (n := 2) (by omega) hn
  have q7 : q < 128 := by omega
  have big : ∀ i, n ≤ i → q.testBit i = false := fun i hi => Nat.testBit_lt_two_pow (Nat.lt_of_lt_of_le hq2 (Nat.pow_le_pow_right (n := 2) (by omega) hi))
  have e12 : ∀ a c : Nat, (12 : Int) * (a : Int) + (c : Int) = ((12 * a + c : Nat) : Int) := fun a c => by omega
  -- some member holds
  have som : ∃ j, j < n ∧ q.testBit j = true := by
    obtain ⟨j, hj⟩ := Nat.exists_testBit_of_ne_zero (show q ≠ 0 by omega)
    by_cases c : j < n
    · exact ⟨j, c, hj⟩
    · rw [big j (by omega)] at hj
      cases hj
  -- the sign that any good shares have
  have sgn : ∀ T, wgP S q T → ∀ i, i < 7 → T i = (if siN (t0F S q) n < 0 then -1 else 1) * t0F S q i := by
    rintro T ⟨⟨tu, ht, hT⟩, pos⟩ i hi
    have eT : ∀ i, i < 7 → T i = tu * t0F S q i := fun i hi => by
      rw [hT i hi]
      unfold t0F
      split
      · rfl
      · rw [Int.mul_zero]
    have nn : ∀ i, i < n → 0 ≤ tu * t0F S q i := fun i hi => by
      rw [← eT i (by omega)]
      by_cases c : q.testBit i = true
      · have := pos i (by omega) c
        omega
      · rw [hT i (by omega), if_neg c]
        omega
    have ps : 0 < siN (fun i => tu * t0F S q i) n := (siN_pos n nn).2 (by
      obtain ⟨j, hj, hb⟩ := som
      refine ⟨j, hj, ?_⟩
      rw [← eT j (by omega)]
      exact pos j (by omega) hb)
    rw [siN_mul] at ps
    rw [eT i hi]
    rcases ht with rfl | rfl
    · rw [if_neg (by omega)]
    · rw [if_pos (by omega)]
  show PW d 238 0 [some (.ref m), some (.int (iI q)), some (.int (iI n)), none, none, none, none, none, none, none] [] h Q
  have dec : ∀ g, fi (fun q => q = m + 20) h g → (zK g m = 12 ∧ m < zN g) ∧ (zR g m 32 = some (m + 20) ∧ zK g (m + 20) = 15 ∧ m + 20 < zN g ∧ zL g (m + 20) = 7) ∧ (zR g m 30 = some (m + 18) ∧ zK g (m + 18) = 15 ∧ m + 18 < zN g ∧ zL g (m + 18) = 128) ∧ (zR g m 12 = some (m + 8) ∧ zK g (m + 8) = 14 ∧ m + 8 < zN g ∧ zL g (m + 8) = 144) ∧ (zR g m 29 = some (m + 17) ∧ zK g (m + 17) = 14 ∧ m + 17 < zN g ∧ zL g (m + 17) = 7) := fun g f => ⟨(hm.fi f).k, (hm.fi f).shareNow, (hm.fi f).pairing, (hm.fi f).net, (hm.fi f).member⟩
  have tb := t0F_b hS q
  have sb := siN_b (f := t0F S q) (B := 823543) tb n
  have sb2 : (n : Int) * 823543 ≤ 7 * 823543 := Int.mul_le_mul_of_nonneg_right (by omega) (by omega)
  generalize hsum : siN (t0F S q) n = sum at *
  -- once all weights are good, do they stand?
  have l4 : ∀ (T : Nat → Int) (g : Hp), wgP S q T → fi (fun q => q = m + 20) h g → (∀ k, k < n → zJ g (m + 20) k = lI (T k)) → ∀ (j i : Nat) (o7 o8 o9 : Option Value), j + i = n → (∀ u, u < i → siN (fun j => S (7 * u + j) * T j) n ≤ 0) → PW d 238 100 [some (.ref m), some (.int (iI q)), some (.int (iI n)), some (.int (iI (if pcN q n % 2 = 0 then 1 else -1))), some (.long (lI sum)), none, some (.int (iI i)), o7, o8, o9] [] g Q := by
    intro T g hw fg hJ j
    obtain ⟨Mg, A20, A18, A8, A17⟩ := dec g fg
    have bg := b.fi fg (by omega) (by omega)
    have Tb := wgP_b hS hw
    induction j with
    | zero =>
      intro i o7 o8 o9 hi hA
      have e : i = n := by omega
      subst e
      refine vs_ok 3 ?_
      rw [show ((gRes 238).drop 100).take 3 = [.iload 6, .iload 2, .if_icmp .ge 143] from rfl]
      simp (disch := omega) only [vs_if_icmp, vs_iload2, vs_iload6, vs_nil, gv_0, gv_1, gv_2, gv_3, pv_0, pv_1, va_rf_s, Nat.reduceDiv, Nat.reduceMod, Nat.reduceAdd, Nat.reduceMul, Int.reduceToNat, true_and, and_true, and_self, cP_eq, cP_ne, cP_lt, cP_ge, cP_gt, cP_le, eL_i, eL_l, eL_r, eL_n, Option.toList_none, Option.toList_some, List.nil_append, List.cons_append, kkI, llI, nnI, rrI, jjI, kkJ, llJ, nnJ, rrJ, iiJ, zIIs, zJJs, nEF, nET, and_false, false_and, jmin, jmax, catS_n, catS_i, catS_r, catS_l, Nat.reduceLeDiff, j1eq1, n21, jt0, jt1, Bool.false_eq_true, Classical.not_not, true_or, or_true, false_or, or_false, true_imp_iff, false_imp_iff, not_true_eq_false, not_false_eq_true, jif0, jif1, jifb, ltT, ltF, leT, leF, eqT, eqF, jlt, jle, jeq, jlt0, jle0, jeq0, jge0, jgt0, jinB, jnat, clt, cle, ceq, cgt, cge, lI_add, lI_sub, lI_mul, jadd, jsub, jmul, jneg, jtol, b010, b011, pv_2t, Int.toNat_natCast, Option.some.injEq, exists_eq_left', if_true, if_false]
      refine vs_ok 2 ?_
      rw [show ((gRes 238).drop 143).take 2 = [.iconst 1, .ireturn] from rfl]
      simp (disch := omega) only [vs_iconst, vs_ireturn, vs_nil, gv_0, gv_1, gv_2, gv_3, pv_0, pv_1, va_rf_s, Nat.reduceDiv, Nat.reduceMod, Nat.reduceAdd, Nat.reduceMul, Int.reduceToNat, true_and, and_true, and_self, cP_eq, cP_ne, cP_lt, cP_ge, cP_gt, cP_le, eL_i, eL_l, eL_r, eL_n, Option.toList_none, Option.toList_some, List.nil_append, List.cons_append, kkI, llI, nnI, rrI, jjI, kkJ, llJ, nnJ, rrJ, iiJ, zIIs, zJJs, nEF, nET, and_false, false_and, jmin, jmax, catS_n, catS_i, catS_r, catS_l, Nat.reduceLeDiff, j1eq1, n21, jt0, jt1, Bool.false_eq_true, Classical.not_not, true_or, or_true, false_or, or_false, true_imp_iff, false_imp_iff, not_true_eq_false, not_false_eq_true, jif0, jif1, jifb, ltT, ltF, leT, leF, eqT, eqF, jlt, jle, jeq, jlt0, jle0, jeq0, jge0, jgt0, jinB, jnat, clt, cle, ceq, cgt, cge, lI_add, lI_sub, lI_mul, jadd, jsub, jmul, jneg, jtol, b010, b011, pv_2t, Int.toNat_natCast, Option.some.injEq, exists_eq_left', if_true, if_false, show gRc 238 = 2 from rfl]
      exact hq1 T hw hA g fg hJ
    | succ j ih =>
      intro i o7 o8 o9 hi hA
      have fb : ∀ u, u ≤ n → -(u * 900000) ≤ siN (fun j => if j < 7 then S (7 * i + j) * T j else 0) u ∧ siN (fun j => if j < 7 then S (7 * i + j) * T j else 0) u ≤ u * 900000 := fun u _ => siN_b (fun k => by
        by_cases y : k < 7
        · rw [if_pos y]
          have s := hS (7 * i + k)
          have t := Tb k y
          have s3 : S (7 * i + k) = -1 ∨ S (7 * i + k) = 0 ∨ S (7 * i + k) = 1 := by omega
          rcases s3 with z | z | z <;> rw [z] <;> omega
        · rw [if_neg y]
          omega) u
      have eq : ∀ u, u ≤ n → siN (fun j => S (7 * i + j) * T j) u = siN (fun j => if j < 7 then S (7 * i + j) * T j else 0) u := fun u => by
        induction u with
        | zero => intro _; rfl
        | succ u ihu =>
          intro hu
          show siN _ u + _ = siN _ u + (if u < 7 then _ else _)
          rw [ihu (by omega), if_pos (by omega)]
      have l5 : ∀ (j2 k : Nat), j2 + k = n → PW d 238 107 [some (.ref m), some (.int (iI q)), some (.int (iI n)), some (.int (iI (if pcN q n % 2 = 0 then 1 else -1))), some (.long (lI sum)), none, some (.int (iI i)), some (.long (lI (siN (fun j => S (7 * i + j) * T j) k))), none, some (.int (iI k))] [] g Q := by
        intro j2
        induction j2 with
        | zero =>
          intro k hk
          have e : k = n := by omega
          subst e
          have x := fb k (Nat.le_refl _)
          rw [← eq k (Nat.le_refl _)] at x
          have x2 : (k : Int) * 900000 ≤ 7 * 900000 := Int.mul_le_mul_of_nonneg_right (by omega) (by omega)
          by_cases c : siN (fun j => S (7 * i + j) * T j) k ≤ 0
          · refine vs_ok 3 ?_
            rw [show ((gRes 238).drop 107).take 3 = [.iload 9, .iload 2, .if_icmp .ge 135] from rfl]
            simp (disch := omega) only [vs_if_icmp, vs_iload2, vs_iload9, vs_nil, gv_0, gv_1, gv_2, gv_3, pv_0, pv_1, va_rf_s, Nat.reduceDiv, Nat.reduceMod, Nat.reduceAdd, Nat.reduceMul, Int.reduceToNat, true_and, and_true, and_self, cP_eq, cP_ne, cP_lt, cP_ge, cP_gt, cP_le, eL_i, eL_l, eL_r, eL_n, Option.toList_none, Option.toList_some, List.nil_append, List.cons_append, kkI, llI, nnI, rrI, jjI, kkJ, llJ, nnJ, rrJ, iiJ, zIIs, zJJs, nEF, nET, and_false, false_and, jmin, jmax, catS_n, catS_i, catS_r, catS_l, Nat.reduceLeDiff, j1eq1, n21, jt0, jt1, Bool.false_eq_true, Classical.not_not, true_or, or_true, false_or, or_false, true_imp_iff, false_imp_iff, not_true_eq_false, not_false_eq_true, jif0, jif1, jifb, ltT, ltF, leT, leF, eqT, eqF, jlt, jle, jeq, jlt0, jle0, jeq0, jge0, jgt0, jinB, jnat, clt, cle, ceq, cgt, cge, lI_add, lI_sub, lI_mul, jadd, jsub, jmul, jneg, jtol, b010, b011, pv_2t, Int.toNat_natCast, Option.some.injEq, exists_eq_left', if_true, if_false]
            refine vs_ok 4 ?_
            rw [show ((gRes 238).drop 135).take 4 = [.lload 7, .jsr_w 0, .lcmp, .ifCond .le 141] from rfl]
            simp (disch := omega) only [vs_lcmp, vs_jsr_w, vs_ifCond, vs_lload7, vs_nil, gv_0, gv_1, gv_2, gv_3, pv_0, pv_1, va_rf_s, Nat.reduceDiv, Nat.reduceMod, Nat.reduceAdd, Nat.reduceMul, Int.reduceToNat, true_and, and_true, and_self, cP_eq, cP_ne, cP_lt, cP_ge, cP_gt, cP_le, eL_i, eL_l, eL_r, eL_n, Option.toList_none, Option.toList_some, List.nil_append, List.cons_append, kkI, llI, nnI, rrI, jjI, kkJ, llJ, nnJ, rrJ, iiJ, zIIs, zJJs, nEF, nET, and_false, false_and, jmin, jmax, catS_n, catS_i, catS_r, catS_l, Nat.reduceLeDiff, j1eq1, n21, jt0, jt1, Bool.false_eq_true, Classical.not_not, true_or, or_true, false_or, or_false, true_imp_iff, false_imp_iff, not_true_eq_false, not_false_eq_true, jif0, jif1, jifb, ltT, ltF, leT, leF, eqT, eqF, jlt, jle, jeq, jlt0, jle0, jeq0, jge0, jgt0, jinB, jnat, clt, cle, ceq, cgt, cge, lI_add, lI_sub, lI_mul, jadd, jsub, jmul, jneg, jtol, b010, b011, pv_2t, Int.toNat_natCast, Option.some.injEq, exists_eq_left', if_true, if_false]
            refine vs_ok 2 ?_
            rw [show ((gRes 238).drop 141).take 2 = [.iinc 6 1, .goto 100] from rfl]
            simp (disch := omega) only [vs_goto, vs_iinc6n, vs_iinc6i, vs_iinc6r, vs_iinc6l, vs_nil, gv_0, gv_1, gv_2, gv_3, pv_0, pv_1, va_rf_s, Nat.reduceDiv, Nat.reduceMod, Nat.reduceAdd, Nat.reduceMul, Int.reduceToNat, true_and, and_true, and_self, cP_eq, cP_ne, cP_lt, cP_ge, cP_gt, cP_le, eL_i, eL_l, eL_r, eL_n, Option.toList_none, Option.toList_some, List.nil_append, List.cons_append, kkI, llI, nnI, rrI, jjI, kkJ, llJ, nnJ, rrJ, iiJ, zIIs, zJJs, nEF, nET, and_false, false_and, jmin, jmax, catS_n, catS_i, catS_r, catS_l, Nat.reduceLeDiff, j1eq1, n21, jt0, jt1, Bool.false_eq_true, Classical.not_not, true_or, or_true, false_or, or_false, true_imp_iff, false_imp_iff, not_true_eq_false, not_false_eq_true, jif0, jif1, jifb, ltT, ltF, leT, leF, eqT, eqF, jlt, jle, jeq, jlt0, jle0, jeq0, jge0, jgt0, jinB, jnat, clt, cle, ceq, cgt, cge, lI_add, lI_sub, lI_mul, jadd, jsub, jmul, jneg, jtol, b010, b011, pv_2t, Int.toNat_natCast, Option.some.injEq, exists_eq_left', if_true, if_false]
            exact ih (i + 1) _ _ _ (by omega) fun u hu => by
              by_cases y : u = i
              · rw [y]; exact c
              · exact hA u (by omega)
          · refine vs_ok 3 ?_
            rw [show ((gRes 238).drop 107).take 3 = [.iload 9, .iload 2, .if_icmp .ge 135] from rfl]
            simp (disch := omega) only [vs_if_icmp, vs_iload2, vs_iload9, vs_nil, gv_0, gv_1, gv_2, gv_3, pv_0, pv_1, va_rf_s, Nat.reduceDiv, Nat.reduceMod, Nat.reduceAdd, Nat.reduceMul, Int.reduceToNat, true_and, and_true, and_self, cP_eq, cP_ne, cP_lt, cP_ge, cP_gt, cP_le, eL_i, eL_l, eL_r, eL_n, Option.toList_none, Option.toList_some, List.nil_append, List.cons_append, kkI, llI, nnI, rrI, jjI, kkJ, llJ, nnJ, rrJ, iiJ, zIIs, zJJs, nEF, nET, and_false, false_and, jmin, jmax, catS_n, catS_i, catS_r, catS_l, Nat.reduceLeDiff, j1eq1, n21, jt0, jt1, Bool.false_eq_true, Classical.not_not, true_or, or_true, false_or, or_false, true_imp_iff, false_imp_iff, not_true_eq_false, not_false_eq_true, jif0, jif1, jifb, ltT, ltF, leT, leF, eqT, eqF, jlt, jle, jeq, jlt0, jle0, jeq0, jge0, jgt0, jinB, jnat, clt, cle, ceq, cgt, cge, lI_add, lI_sub, lI_mul, jadd, jsub, jmul, jneg, jtol, b010, b011, pv_2t, Int.toNat_natCast, Option.some.injEq, exists_eq_left', if_true, if_false]
            refine vs_ok 4 ?_
            rw [show ((gRes 238).drop 135).take 4 = [.lload 7, .jsr_w 0, .lcmp, .ifCond .le 141] from rfl]
            simp (disch := omega) only [vs_lcmp, vs_jsr_w, vs_ifCond, vs_lload7, vs_nil, gv_0, gv_1, gv_2, gv_3, pv_0, pv_1, va_rf_s, Nat.reduceDiv, Nat.reduceMod, Nat.reduceAdd, Nat.reduceMul, Int.reduceToNat, true_and, and_true, and_self, cP_eq, cP_ne, cP_lt, cP_ge, cP_gt, cP_le, eL_i, eL_l, eL_r, eL_n, Option.toList_none, Option.toList_some, List.nil_append, List.cons_append, kkI, llI, nnI, rrI, jjI, kkJ, llJ, nnJ, rrJ, iiJ, zIIs, zJJs, nEF, nET, and_false, false_and, jmin, jmax, catS_n, catS_i, catS_r, catS_l, Nat.reduceLeDiff, j1eq1, n21, jt0, jt1, Bool.false_eq_true, Classical.not_not, true_or, or_true, false_or, or_false, true_imp_iff, false_imp_iff, not_true_eq_false, not_false_eq_true, jif0, jif1, jifb, ltT, ltF, leT, leF, eqT, eqF, jlt, jle, jeq, jlt0, jle0, jeq0, jge0, jgt0, jinB, jnat, clt, cle, ceq, cgt, cge, lI_add, lI_sub, lI_mul, jadd, jsub, jmul, jneg, jtol, b010, b011, pv_2t, Int.toNat_natCast, Option.some.injEq, exists_eq_left', if_true, if_false]
            refine vs_ok 2 ?_
            rw [show ((gRes 238).drop 139).take 2 = [.iconst 0, .ireturn] from rfl]
            simp (disch := omega) only [vs_iconst, vs_ireturn, vs_nil, gv_0, gv_1, gv_2, gv_3, pv_0, pv_1, va_rf_s, Nat.reduceDiv, Nat.reduceMod, Nat.reduceAdd, Nat.reduceMul, Int.reduceToNat, true_and, and_true, and_self, cP_eq, cP_ne, cP_lt, cP_ge, cP_gt, cP_le, eL_i, eL_l, eL_r, eL_n, Option.toList_none, Option.toList_some, List.nil_append, List.cons_append, kkI, llI, nnI, rrI, jjI, kkJ, llJ, nnJ, rrJ, iiJ, zIIs, zJJs, nEF, nET, and_false, false_and, jmin, jmax, catS_n, catS_i, catS_r, catS_l, Nat.reduceLeDiff, j1eq1, n21, jt0, jt1, Bool.false_eq_true, Classical.not_not, true_or, or_true, false_or, or_false, true_imp_iff, false_imp_iff, not_true_eq_false, not_false_eq_true, jif0, jif1, jifb, ltT, ltF, leT, leF, eqT, eqF, jlt, jle, jeq, jlt0, jle0, jeq0, jge0, jgt0, jinB, jnat, clt, cle, ceq, cgt, cge, lI_add, lI_sub, lI_mul, jadd, jsub, jmul, jneg, jtol, b010, b011, pv_2t, Int.toNat_natCast, Option.some.injEq, exists_eq_left', if_true, if_false, show gRc 238 = 2 from rfl]
            refine hq0 (fun T' hT' => c ?_) g fg
            have u := wgP_u hT'.1 hw
            have s1 := (gdP_cut hn hT'.1).2.mp hT'.2
            rw [u] at s1
            exact (gdP_cut hn hw).2.mpr s1 i (by omega)
        | succ j2 ih2 =>
          intro k hk
          have v1 := (bg.1 i (by omega))
          have v2 := (bg.1 k (by omega))
          have v3 := bg.2 i k (by omega) (by omega)
          have v4 := hJ k (by omega)
          have s := hS (7 * i + k)
          have t := Tb k (by omega)
          have nx := ih2 (k + 1) (by omega)
          have es : siN (fun j => S (7 * i + j) * T j) (k + 1) = siN (fun j => S (7 * i + j) * T j) k + S (7 * i + k) * T k := rfl
          rw [es] at nx
          refine vs_ok 3 ?_
          rw [show ((gRes 238).drop 107).take 3 = [.iload 9, .iload 2, .if_icmp .ge 135] from rfl]
          simp (disch := omega) only [vs_if_icmp, vs_iload2, vs_iload9, vs_nil, gv_0, gv_1, gv_2, gv_3, pv_0, pv_1, va_rf_s, Nat.reduceDiv, Nat.reduceMod, Nat.reduceAdd, Nat.reduceMul, Int.reduceToNat, true_and, and_true, and_self, cP_eq, cP_ne, cP_lt, cP_ge, cP_gt, cP_le, eL_i, eL_l, eL_r, eL_n, Option.toList_none, Option.toList_some, List.nil_append, List.cons_append, kkI, llI, nnI, rrI, jjI, kkJ, llJ, nnJ, rrJ, iiJ, zIIs, zJJs, nEF, nET, and_false, false_and, jmin, jmax, catS_n, catS_i, catS_r, catS_l, Nat.reduceLeDiff, j1eq1, n21, jt0, jt1, Bool.false_eq_true, Classical.not_not, true_or, or_true, false_or, or_false, true_imp_iff, false_imp_iff, not_true_eq_false, not_false_eq_true, jif0, jif1, jifb, ltT, ltF, leT, leF, eqT, eqF, jlt, jle, jeq, jlt0, jle0, jeq0, jge0, jgt0, jinB, jnat, clt, cle, ceq, cgt, cge, lI_add, lI_sub, lI_mul, jadd, jsub, jmul, jneg, jtol, b010, b011, pv_2t, Int.toNat_natCast, Option.some.injEq, exists_eq_left', if_true, if_false]
          refine vs_ok 16 ?_
          rw [show ((gRes 238).drop 110).take 16 = [.lload 7, .aload 0, .getfield 12122, .iconst 12, .aload 0, .getfield 12292, .iload 6, .iaload, .imul, .aload 0, .getfield 12292, .iload 9, .iaload, .iadd, .iaload, .i2l] from rfl]
          simp (disch := omega) only [vs_iadd, vs_imul, vs_i2l, vs_iconst, vs_getfield, vs_iaload, vs_aload0, vs_iload6, vs_lload7, vs_iload9, vs_nil, gv_0, gv_1, gv_2, gv_3, pv_0, pv_1, va_rf_s, Nat.reduceDiv, Nat.reduceMod, Nat.reduceAdd, Nat.reduceMul, Int.reduceToNat, true_and, and_true, and_self, cP_eq, cP_ne, cP_lt, cP_ge, cP_gt, cP_le, eL_i, eL_l, eL_r, eL_n, Option.toList_none, Option.toList_some, List.nil_append, List.cons_append, kkI, llI, nnI, rrI, jjI, kkJ, llJ, nnJ, rrJ, iiJ, zIIs, zJJs, nEF, nET, and_false, false_and, jmin, jmax, catS_n, catS_i, catS_r, catS_l, Nat.reduceLeDiff, j1eq1, n21, jt0, jt1, Bool.false_eq_true, Classical.not_not, true_or, or_true, false_or, or_false, true_imp_iff, false_imp_iff, not_true_eq_false, not_false_eq_true, jif0, jif1, jifb, ltT, ltF, leT, leF, eqT, eqF, jlt, jle, jeq, jlt0, jle0, jeq0, jge0, jgt0, jinB, jnat, clt, cle, ceq, cgt, cge, lI_add, lI_sub, lI_mul, jadd, jsub, jmul, jneg, jtol, b010, b011, pv_2t, Int.toNat_natCast, Option.some.injEq, exists_eq_left', if_true, if_false, Mg, A8, A17, v1.2, v2.2, e12, v3]
          refine vs_ok 9 ?_
          rw [show ((gRes 238).drop 126).take 9 = [.aload 0, .getfield 12322, .iload 9, .laload, .lmul, .ladd, .lstore 7, .iinc 9 1, .goto 107] from rfl]
          simp (disch := omega) only [vs_ladd, vs_lmul, vs_goto, vs_getfield, vs_laload, vs_aload0, vs_lstore7n, vs_lstore7i, vs_lstore7r, vs_lstore7l, vs_iload9, vs_iinc9n, vs_iinc9i, vs_iinc9r, vs_iinc9l, vs_nil, gv_0, gv_1, gv_2, gv_3, pv_0, pv_1, va_rf_s, Nat.reduceDiv, Nat.reduceMod, Nat.reduceAdd, Nat.reduceMul, Int.reduceToNat, true_and, and_true, and_self, cP_eq, cP_ne, cP_lt, cP_ge, cP_gt, cP_le, eL_i, eL_l, eL_r, eL_n, Option.toList_none, Option.toList_some, List.nil_append, List.cons_append, kkI, llI, nnI, rrI, jjI, kkJ, llJ, nnJ, rrJ, iiJ, zIIs, zJJs, nEF, nET, and_false, false_and, jmin, jmax, catS_n, catS_i, catS_r, catS_l, Nat.reduceLeDiff, j1eq1, n21, jt0, jt1, Bool.false_eq_true, Classical.not_not, true_or, or_true, false_or, or_false, true_imp_iff, false_imp_iff, not_true_eq_false, not_false_eq_true, jif0, jif1, jifb, ltT, ltF, leT, leF, eqT, eqF, jlt, jle, jeq, jlt0, jle0, jeq0, jge0, jgt0, jinB, jnat, clt, cle, ceq, cgt, cge, lI_add, lI_sub, lI_mul, jadd, jsub, jmul, jneg, jtol, b010, b011, pv_2t, Int.toNat_natCast, Option.some.injEq, exists_eq_left', if_true, if_false, Mg, A20, v4]
          exact nx
      refine vs_ok 3 ?_
      rw [show ((gRes 238).drop 100).take 3 = [.iload 6, .iload 2, .if_icmp .ge 143] from rfl]
      simp (disch := omega) only [vs_if_icmp, vs_iload2, vs_iload6, vs_nil, gv_0, gv_1, gv_2, gv_3, pv_0, pv_1, va_rf_s, Nat.reduceDiv, Nat.reduceMod, Nat.reduceAdd, Nat.reduceMul, Int.reduceToNat, true_and, and_true, and_self, cP_eq, cP_ne, cP_lt, cP_ge, cP_gt, cP_le, eL_i, eL_l, eL_r, eL_n, Option.toList_none, Option.toList_some, List.nil_append, List.cons_append, kkI, llI, nnI, rrI, jjI, kkJ, llJ, nnJ, rrJ, iiJ, zIIs, zJJs, nEF, nET, and_false, false_and, jmin, jmax, catS_n, catS_i, catS_r, catS_l, Nat.reduceLeDiff, j1eq1, n21, jt0, jt1, Bool.false_eq_true, Classical.not_not, true_or, or_true, false_or, or_false, true_imp_iff, false_imp_iff, not_true_eq_false, not_false_eq_true, jif0, jif1, jifb, ltT, ltF, leT, leF, eqT, eqF, jlt, jle, jeq, jlt0, jle0, jeq0, jge0, jgt0, jinB, jnat, clt, cle, ceq, cgt, cge, lI_add, lI_sub, lI_mul, jadd, jsub, jmul, jneg, jtol, b010, b011, pv_2t, Int.toNat_natCast, Option.some.injEq, exists_eq_left', if_true, if_false]
      refine vs_ok 4 ?_
      rw [show ((gRes 238).drop 103).take 4 = [.jsr_w 0, .lstore 7, .iconst 0, .istore 9] from rfl]
      simp (disch := omega) only [vs_iconst, vs_jsr_w, vs_lstore7n, vs_lstore7i, vs_lstore7r, vs_lstore7l, vs_istore9n, vs_istore9i, vs_istore9r, vs_istore9l, vs_nil, gv_0, gv_1, gv_2, gv_3, pv_0, pv_1, va_rf_s, Nat.reduceDiv, Nat.reduceMod, Nat.reduceAdd, Nat.reduceMul, Int.reduceToNat, true_and, and_true, and_self, cP_eq, cP_ne, cP_lt, cP_ge, cP_gt, cP_le, eL_i, eL_l, eL_r, eL_n, Option.toList_none, Option.toList_some, List.nil_append, List.cons_append, kkI, llI, nnI, rrI, jjI, kkJ, llJ, nnJ, rrJ, iiJ, zIIs, zJJs, nEF, nET, and_false, false_and, jmin, jmax, catS_n, catS_i, catS_r, catS_l, Nat.reduceLeDiff, j1eq1, n21, jt0, jt1, Bool.false_eq_true, Classical.not_not, true_or, or_true, false_or, or_false, true_imp_iff, false_imp_iff, not_true_eq_false, not_false_eq_true, jif0, jif1, jifb, ltT, ltF, leT, leF, eqT, eqF, jlt, jle, jeq, jlt0, jle0, jeq0, jge0, jgt0, jinB, jnat, clt, cle, ceq, cgt, cge, lI_add, lI_sub, lI_mul, jadd, jsub, jmul, jneg, jtol, b010, b011, pv_2t, Int.toNat_natCast, Option.some.injEq, exists_eq_left', if_true, if_false]
      exact l5 n 0 (by omega)
  -- the sign is put on, and each holder must hold something
  have l3 : ∀ (j k : Nat) (g : Hp), j + k = n → fi (fun q => q = m + 20) h g → (∀ u, u < n → zJ g (m + 20) u = lI (if u < k then (if sum < 0 then -1 else 1) * t0F S q u else t0F S q u)) → (∀ u, u < k → q.testBit u = true → 0 < (if sum < 0 then -1 else 1) * t0F S q u) → PW d 238 59 [some (.ref m), some (.int (iI q)), some (.int (iI n)), some (.int (iI (if pcN q n % 2 = 0 then 1 else -1))), some (.long (lI sum)), none, some (.int (iI k)), none, none, none] [] g Q := by
    intro j
    induction j with
    | zero =>
      intro k g hk fg hJ hpos
      have e : k = n := by omega
      subst e
      refine vs_ok 3 ?_
      rw [show ((gRes 238).drop 59).take 3 = [.iload 6, .iload 2, .if_icmp .ge 98] from rfl]
      simp (disch := omega) only [vs_if_icmp, vs_iload2, vs_iload6, vs_nil, gv_0, gv_1, gv_2, gv_3, pv_0, pv_1, va_rf_s, Nat.reduceDiv, Nat.reduceMod, Nat.reduceAdd, Nat.reduceMul, Int.reduceToNat, true_and, and_true, and_self, cP_eq, cP_ne, cP_lt, cP_ge, cP_gt, cP_le, eL_i, eL_l, eL_r, eL_n, Option.toList_none, Option.toList_some, List.nil_append, List.cons_append, kkI, llI, nnI, rrI, jjI, kkJ, llJ, nnJ, rrJ, iiJ, zIIs, zJJs, nEF, nET, and_false, false_and, jmin, jmax, catS_n, catS_i, catS_r, catS_l, Nat.reduceLeDiff, j1eq1, n21, jt0, jt1, Bool.false_eq_true, Classical.not_not, true_or, or_true, false_or, or_false, true_imp_iff, false_imp_iff, not_true_eq_false, not_false_eq_true, jif0, jif1, jifb, ltT, ltF, leT, leF, eqT, eqF, jlt, jle, jeq, jlt0, jle0, jeq0, jge0, jgt0, jinB, jnat, clt, cle, ceq, cgt, cge, lI_add, lI_sub, lI_mul, jadd, jsub, jmul, jneg, jtol, b010, b011, pv_2t, Int.toNat_natCast, Option.some.injEq, exists_eq_left', if_true, if_false]
      refine vs_ok 2 ?_
      rw [show ((gRes 238).drop 98).take 2 = [.iconst 0, .istore 6] from rfl]
      simp (disch := omega) only [vs_iconst, vs_istore6n, vs_istore6i, vs_istore6r, vs_istore6l, vs_nil, gv_0, gv_1, gv_2, gv_3, pv_0, pv_1, va_rf_s, Nat.reduceDiv, Nat.reduceMod, Nat.reduceAdd, Nat.reduceMul, Int.reduceToNat, true_and, and_true, and_self, cP_eq, cP_ne, cP_lt, cP_ge, cP_gt, cP_le, eL_i, eL_l, eL_r, eL_n, Option.toList_none, Option.toList_some, List.nil_append, List.cons_append, kkI, llI, nnI, rrI, jjI, kkJ, llJ, nnJ, rrJ, iiJ, zIIs, zJJs, nEF, nET, and_false, false_and, jmin, jmax, catS_n, catS_i, catS_r, catS_l, Nat.reduceLeDiff, j1eq1, n21, jt0, jt1, Bool.false_eq_true, Classical.not_not, true_or, or_true, false_or, or_false, true_imp_iff, false_imp_iff, not_true_eq_false, not_false_eq_true, jif0, jif1, jifb, ltT, ltF, leT, leF, eqT, eqF, jlt, jle, jeq, jlt0, jle0, jeq0, jge0, jgt0, jinB, jnat, clt, cle, ceq, cgt, cge, lI_add, lI_sub, lI_mul, jadd, jsub, jmul, jneg, jtol, b010, b011, pv_2t, Int.toNat_natCast, Option.some.injEq, exists_eq_left', if_true, if_false]
      refine l4 (fun i => (if sum < 0 then -1 else 1) * t0F S q i) g ⟨⟨if sum < 0 then -1 else 1, by split <;> omega, fun i hi => ?_⟩, fun i hi hb => ?_⟩ fg (fun u hu => by rw [hJ u hu, if_pos hu]) k 0 _ _ _ (by omega) fun u hu => absurd hu (by omega)
      · show (if sum < 0 then -1 else 1) * (if q.testBit i = true then raF S q i else 0) = _
        by_cases c : q.testBit i = true
        · rw [if_pos c, if_pos c]
        · rw [if_neg c, if_neg c, Int.mul_zero]
      · by_cases c : i < k
        · exact hpos i c hb
        · rw [big i (by omega)] at hb
          cases hb
    | succ j ih =>
      intro k g hk fg hJ hpos
      obtain ⟨Mg, A20, A18, A8, A17⟩ := dec g fg
      have vk := hJ k (by omega)
      rw [if_neg (by omega)] at vk
      have tk := tb k
      have nx : fi (fun q => q = m + 20) h (zsJ g (m + 20) k (lI ((if sum < 0 then -1 else 1) * t0F S q k))) ∧ ∀ u, u < n → zJ (zsJ g (m + 20) k (lI ((if sum < 0 then -1 else 1) * t0F S q k))) (m + 20) u = lI (if u < k + 1 then (if sum < 0 then -1 else 1) * t0F S q u else t0F S q u) := by
        refine ⟨fg.J rfl, fun u hu => ?_⟩
        rw [zJ_sJ]
        by_cases y : u = k
        · rw [if_pos ⟨rfl, y⟩, y, if_pos (show k < k + 1 by omega)]
        · rw [if_neg fun w => y w.2, hJ u hu]
          by_cases y2 : u < k
          · rw [if_pos y2, if_pos (show u < k + 1 by omega)]
          · rw [if_neg y2, if_neg (show ¬ u < k + 1 by omega)]
      -- once it is laid
      have aft : ∀ g', fi (fun q => q = m + 20) h g' → (∀ u, u < n → zJ g' (m + 20) u = lI (if u < k + 1 then (if sum < 0 then -1 else 1) * t0F S q u else t0F S q u)) → PW d 238 80 [some (.ref m), some (.int (iI q)), some (.int (iI n)), some (.int (iI (if pcN q n % 2 = 0 then 1 else -1))), some (.long (lI sum)), none, some (.int (iI k)), none, none, none] [] g' Q := fun g' f' hJ' => by
        obtain ⟨Mg', A20', -⟩ := dec g' f'
        have v := hJ' k (by omega)
        rw [if_pos (by omega)] at v
        have vb : -823543 ≤ (if sum < 0 then -1 else 1) * t0F S q k ∧ (if sum < 0 then -1 else 1) * t0F S q k ≤ 823543 := by
          split <;> omega
        by_cases c : q.testBit k = true
        · by_cases c2 : 0 < (if sum < 0 then -1 else 1) * t0F S q k
          · have hx := ih (k + 1) g' (by omega) f' hJ' fun u hu hb => by
              by_cases y : u = k
              · rw [y]; exact c2
              · exact hpos u (by omega) hb
            generalize (if sum < 0 then -1 else 1) * t0F S q k = val at *
            refine vs_ok 7 ?_
            rw [show ((gRes 238).drop 80).take 7 = [.iload 1, .iload 6, .ishr, .iconst 1, .iand, .iconst 1, .if_icmp .ne 96] from rfl]
            simp (disch := omega) only [vs_iconst, vs_if_icmp, vs_iload1, vs_iload6, vs_nil, gv_0, gv_1, gv_2, gv_3, pv_0, pv_1, va_rf_s, vs_iand, vs_ishr, Nat.reduceDiv, Nat.reduceMod, Nat.reduceAdd, Nat.reduceMul, Int.reduceToNat, true_and, and_true, and_self, cP_eq, cP_ne, cP_lt, cP_ge, cP_gt, cP_le, eL_i, eL_l, eL_r, eL_n, Option.toList_none, Option.toList_some, List.nil_append, List.cons_append, kkI, llI, nnI, rrI, jjI, kkJ, llJ, nnJ, rrJ, iiJ, zIIs, zJJs, nEF, nET, and_false, false_and, jmin, jmax, catS_n, catS_i, catS_r, catS_l, Nat.reduceLeDiff, j1eq1, n21, jt0, jt1, Bool.false_eq_true, Classical.not_not, true_or, or_true, false_or, or_false, true_imp_iff, false_imp_iff, not_true_eq_false, not_false_eq_true, jif0, jif1, jifb, ltT, ltF, leT, leF, eqT, eqF, jlt, jle, jeq, jlt0, jle0, jeq0, jge0, jgt0, jinB, jnat, clt, cle, ceq, cgt, cge, lI_add, lI_sub, lI_mul, jadd, jsub, jmul, jneg, jtol, b010, b011, pv_2t, Int.toNat_natCast, Option.some.injEq, exists_eq_left', if_true, if_false, jbit, c]
            refine vs_ok 7 ?_
            rw [show ((gRes 238).drop 87).take 7 = [.aload 0, .getfield 12322, .iload 6, .laload, .jsr_w 0, .lcmp, .ifCond .gt 96] from rfl]
            simp (disch := omega) only [vs_lcmp, vs_jsr_w, vs_ifCond, vs_getfield, vs_laload, vs_aload0, vs_iload6, vs_nil, gv_0, gv_1, gv_2, gv_3, pv_0, pv_1, va_rf_s, Nat.reduceDiv, Nat.reduceMod, Nat.reduceAdd, Nat.reduceMul, Int.reduceToNat, true_and, and_true, and_self, cP_eq, cP_ne, cP_lt, cP_ge, cP_gt, cP_le, eL_i, eL_l, eL_r, eL_n, Option.toList_none, Option.toList_some, List.nil_append, List.cons_append, kkI, llI, nnI, rrI, jjI, kkJ, llJ, nnJ, rrJ, iiJ, zIIs, zJJs, nEF, nET, and_false, false_and, jmin, jmax, catS_n, catS_i, catS_r, catS_l, Nat.reduceLeDiff, j1eq1, n21, jt0, jt1, Bool.false_eq_true, Classical.not_not, true_or, or_true, false_or, or_false, true_imp_iff, false_imp_iff, not_true_eq_false, not_false_eq_true, jif0, jif1, jifb, ltT, ltF, leT, leF, eqT, eqF, jlt, jle, jeq, jlt0, jle0, jeq0, jge0, jgt0, jinB, jnat, clt, cle, ceq, cgt, cge, lI_add, lI_sub, lI_mul, jadd, jsub, jmul, jneg, jtol, b010, b011, pv_2t, Int.toNat_natCast, Option.some.injEq, exists_eq_left', if_true, if_false, Mg', A20', v]
            refine vs_ok 2 ?_
            rw [show ((gRes 238).drop 96).take 2 = [.iinc 6 1, .goto 59] from rfl]
            simp (disch := omega) only [vs_goto, vs_iinc6n, vs_iinc6i, vs_iinc6r, vs_iinc6l, vs_nil, gv_0, gv_1, gv_2, gv_3, pv_0, pv_1, va_rf_s, Nat.reduceDiv, Nat.reduceMod, Nat.reduceAdd, Nat.reduceMul, Int.reduceToNat, true_and, and_true, and_self, cP_eq, cP_ne, cP_lt, cP_ge, cP_gt, cP_le, eL_i, eL_l, eL_r, eL_n, Option.toList_none, Option.toList_some, List.nil_append, List.cons_append, kkI, llI, nnI, rrI, jjI, kkJ, llJ, nnJ, rrJ, iiJ, zIIs, zJJs, nEF, nET, and_false, false_and, jmin, jmax, catS_n, catS_i, catS_r, catS_l, Nat.reduceLeDiff, j1eq1, n21, jt0, jt1, Bool.false_eq_true, Classical.not_not, true_or, or_true, false_or, or_false, true_imp_iff, false_imp_iff, not_true_eq_false, not_false_eq_true, jif0, jif1, jifb, ltT, ltF, leT, leF, eqT, eqF, jlt, jle, jeq, jlt0, jle0, jeq0, jge0, jgt0, jinB, jnat, clt, cle, ceq, cgt, cge, lI_add, lI_sub, lI_mul, jadd, jsub, jmul, jneg, jtol, b010, b011, pv_2t, Int.toNat_natCast, Option.some.injEq, exists_eq_left', if_true, if_false]
            exact hx
          · have bad : ∀ T, ¬ (wgP S q T ∧ stP n S T) := fun T hT => c2 (by
              have := sgn T hT.1 k (by omega)
              rw [← this]
              exact hT.1.2 k (by omega) c)
            generalize (if sum < 0 then -1 else 1) * t0F S q k = val at *
            refine vs_ok 7 ?_
            rw [show ((gRes 238).drop 80).take 7 = [.iload 1, .iload 6, .ishr, .iconst 1, .iand, .iconst 1, .if_icmp .ne 96] from rfl]
            simp (disch := omega) only [vs_iconst, vs_if_icmp, vs_iload1, vs_iload6, vs_nil, gv_0, gv_1, gv_2, gv_3, pv_0, pv_1, va_rf_s, vs_iand, vs_ishr, Nat.reduceDiv, Nat.reduceMod, Nat.reduceAdd, Nat.reduceMul, Int.reduceToNat, true_and, and_true, and_self, cP_eq, cP_ne, cP_lt, cP_ge, cP_gt, cP_le, eL_i, eL_l, eL_r, eL_n, Option.toList_none, Option.toList_some, List.nil_append, List.cons_append, kkI, llI, nnI, rrI, jjI, kkJ, llJ, nnJ, rrJ, iiJ, zIIs, zJJs, nEF, nET, and_false, false_and, jmin, jmax, catS_n, catS_i, catS_r, catS_l, Nat.reduceLeDiff, j1eq1, n21, jt0, jt1, Bool.false_eq_true, Classical.not_not, true_or, or_true, false_or, or_false, true_imp_iff, false_imp_iff, not_true_eq_false, not_false_eq_true, jif0, jif1, jifb, ltT, ltF, leT, leF, eqT, eqF, jlt, jle, jeq, jlt0, jle0, jeq0, jge0, jgt0, jinB, jnat, clt, cle, ceq, cgt, cge, lI_add, lI_sub, lI_mul, jadd, jsub, jmul, jneg, jtol, b010, b011, pv_2t, Int.toNat_natCast, Option.some.injEq, exists_eq_left', if_true, if_false, jbit, c]
            refine vs_ok 7 ?_
            rw [show ((gRes 238).drop 87).take 7 = [.aload 0, .getfield 12322, .iload 6, .laload, .jsr_w 0, .lcmp, .ifCond .gt 96] from rfl]
            simp (disch := omega) only [vs_lcmp, vs_jsr_w, vs_ifCond, vs_getfield, vs_laload, vs_aload0, vs_iload6, vs_nil, gv_0, gv_1, gv_2, gv_3, pv_0, pv_1, va_rf_s, Nat.reduceDiv, Nat.reduceMod, Nat.reduceAdd, Nat.reduceMul, Int.reduceToNat, true_and, and_true, and_self, cP_eq, cP_ne, cP_lt, cP_ge, cP_gt, cP_le, eL_i, eL_l, eL_r, eL_n, Option.toList_none, Option.toList_some, List.nil_append, List.cons_append, kkI, llI, nnI, rrI, jjI, kkJ, llJ, nnJ, rrJ, iiJ, zIIs, zJJs, nEF, nET, and_false, false_and, jmin, jmax, catS_n, catS_i, catS_r, catS_l, Nat.reduceLeDiff, j1eq1, n21, jt0, jt1, Bool.false_eq_true, Classical.not_not, true_or, or_true, false_or, or_false, true_imp_iff, false_imp_iff, not_true_eq_false, not_false_eq_true, jif0, jif1, jifb, ltT, ltF, leT, leF, eqT, eqF, jlt, jle, jeq, jlt0, jle0, jeq0, jge0, jgt0, jinB, jnat, clt, cle, ceq, cgt, cge, lI_add, lI_sub, lI_mul, jadd, jsub, jmul, jneg, jtol, b010, b011, pv_2t, Int.toNat_natCast, Option.some.injEq, exists_eq_left', if_true, if_false, Mg', A20', v]
            refine vs_ok 2 ?_
            rw [show ((gRes 238).drop 94).take 2 = [.iconst 0, .ireturn] from rfl]
            simp (disch := omega) only [vs_iconst, vs_ireturn, vs_nil, gv_0, gv_1, gv_2, gv_3, pv_0, pv_1, va_rf_s, Nat.reduceDiv, Nat.reduceMod, Nat.reduceAdd, Nat.reduceMul, Int.reduceToNat, true_and, and_true, and_self, cP_eq, cP_ne, cP_lt, cP_ge, cP_gt, cP_le, eL_i, eL_l, eL_r, eL_n, Option.toList_none, Option.toList_some, List.nil_append, List.cons_append, kkI, llI, nnI, rrI, jjI, kkJ, llJ, nnJ, rrJ, iiJ, zIIs, zJJs, nEF, nET, and_false, false_and, jmin, jmax, catS_n, catS_i, catS_r, catS_l, Nat.reduceLeDiff, j1eq1, n21, jt0, jt1, Bool.false_eq_true, Classical.not_not, true_or, or_true, false_or, or_false, true_imp_iff, false_imp_iff, not_true_eq_false, not_false_eq_true, jif0, jif1, jifb, ltT, ltF, leT, leF, eqT, eqF, jlt, jle, jeq, jlt0, jle0, jeq0, jge0, jgt0, jinB, jnat, clt, cle, ceq, cgt, cge, lI_add, lI_sub, lI_mul, jadd, jsub, jmul, jneg, jtol, b010, b011, pv_2t, Int.toNat_natCast, Option.some.injEq, exists_eq_left', if_true, if_false, show gRc 238 = 2 from rfl]
            exact hq0 bad g' f'
        · refine vs_ok 7 ?_
          rw [show ((gRes 238).drop 80).take 7 = [.iload 1, .iload 6, .ishr, .iconst 1, .iand, .iconst 1, .if_icmp .ne 96] from rfl]
          simp (disch := omega) only [vs_iconst, vs_if_icmp, vs_iload1, vs_iload6, vs_nil, gv_0, gv_1, gv_2, gv_3, pv_0, pv_1, va_rf_s, vs_iand, vs_ishr, Nat.reduceDiv, Nat.reduceMod, Nat.reduceAdd, Nat.reduceMul, Int.reduceToNat, true_and, and_true, and_self, cP_eq, cP_ne, cP_lt, cP_ge, cP_gt, cP_le, eL_i, eL_l, eL_r, eL_n, Option.toList_none, Option.toList_some, List.nil_append, List.cons_append, kkI, llI, nnI, rrI, jjI, kkJ, llJ, nnJ, rrJ, iiJ, zIIs, zJJs, nEF, nET, and_false, false_and, jmin, jmax, catS_n, catS_i, catS_r, catS_l, Nat.reduceLeDiff, j1eq1, n21, jt0, jt1, Bool.false_eq_true, Classical.not_not, true_or, or_true, false_or, or_false, true_imp_iff, false_imp_iff, not_true_eq_false, not_false_eq_true, jif0, jif1, jifb, ltT, ltF, leT, leF, eqT, eqF, jlt, jle, jeq, jlt0, jle0, jeq0, jge0, jgt0, jinB, jnat, clt, cle, ceq, cgt, cge, lI_add, lI_sub, lI_mul, jadd, jsub, jmul, jneg, jtol, b010, b011, pv_2t, Int.toNat_natCast, Option.some.injEq, exists_eq_left', if_true, if_false, jbit, c]
          refine vs_ok 2 ?_
          rw [show ((gRes 238).drop 96).take 2 = [.iinc 6 1, .goto 59] from rfl]
          simp (disch := omega) only [vs_goto, vs_iinc6n, vs_iinc6i, vs_iinc6r, vs_iinc6l, vs_nil, gv_0, gv_1, gv_2, gv_3, pv_0, pv_1, va_rf_s, Nat.reduceDiv, Nat.reduceMod, Nat.reduceAdd, Nat.reduceMul, Int.reduceToNat, true_and, and_true, and_self, cP_eq, cP_ne, cP_lt, cP_ge, cP_gt, cP_le, eL_i, eL_l, eL_r, eL_n, Option.toList_none, Option.toList_some, List.nil_append, List.cons_append, kkI, llI, nnI, rrI, jjI, kkJ, llJ, nnJ, rrJ, iiJ, zIIs, zJJs, nEF, nET, and_false, false_and, jmin, jmax, catS_n, catS_i, catS_r, catS_l, Nat.reduceLeDiff, j1eq1, n21, jt0, jt1, Bool.false_eq_true, Classical.not_not, true_or, or_true, false_or, or_false, true_imp_iff, false_imp_iff, not_true_eq_false, not_false_eq_true, jif0, jif1, jifb, ltT, ltF, leT, leF, eqT, eqF, jlt, jle, jeq, jlt0, jle0, jeq0, jge0, jgt0, jinB, jnat, clt, cle, ceq, cgt, cge, lI_add, lI_sub, lI_mul, jadd, jsub, jmul, jneg, jtol, b010, b011, pv_2t, Int.toNat_natCast, Option.some.injEq, exists_eq_left', if_true, if_false]
          exact ih (k + 1) g' (by omega) f' hJ' fun u hu hb => by
            by_cases y : u = k
            · rw [y] at hb
              exact absurd hb c
            · exact hpos u (by omega) hb
      obtain ⟨nx1, nx2⟩ := nx
      by_cases cs : sum < 0
      · rw [if_pos cs, show (-1 : Int) * t0F S q k = -(t0F S q k) by omega] at nx1 nx2
        refine vs_ok 3 ?_
        rw [show ((gRes 238).drop 59).take 3 = [.iload 6, .iload 2, .if_icmp .ge 98] from rfl]
        simp (disch := omega) only [vs_if_icmp, vs_iload2, vs_iload6, vs_nil, gv_0, gv_1, gv_2, gv_3, pv_0, pv_1, va_rf_s, Nat.reduceDiv, Nat.reduceMod, Nat.reduceAdd, Nat.reduceMul, Int.reduceToNat, true_and, and_true, and_self, cP_eq, cP_ne, cP_lt, cP_ge, cP_gt, cP_le, eL_i, eL_l, eL_r, eL_n, Option.toList_none, Option.toList_some, List.nil_append, List.cons_append, kkI, llI, nnI, rrI, jjI, kkJ, llJ, nnJ, rrJ, iiJ, zIIs, zJJs, nEF, nET, and_false, false_and, jmin, jmax, catS_n, catS_i, catS_r, catS_l, Nat.reduceLeDiff, j1eq1, n21, jt0, jt1, Bool.false_eq_true, Classical.not_not, true_or, or_true, false_or, or_false, true_imp_iff, false_imp_iff, not_true_eq_false, not_false_eq_true, jif0, jif1, jifb, ltT, ltF, leT, leF, eqT, eqF, jlt, jle, jeq, jlt0, jle0, jeq0, jge0, jgt0, jinB, jnat, clt, cle, ceq, cgt, cge, lI_add, lI_sub, lI_mul, jadd, jsub, jmul, jneg, jtol, b010, b011, pv_2t, Int.toNat_natCast, Option.some.injEq, exists_eq_left', if_true, if_false]
        refine vs_ok 7 ?_
        rw [show ((gRes 238).drop 62).take 7 = [.aload 0, .getfield 12322, .iload 6, .lload 4, .jsr_w 0, .lcmp, .ifCond .ge 75] from rfl]
        simp (disch := omega) only [vs_lcmp, vs_jsr_w, vs_ifCond, vs_getfield, vs_aload0, vs_lload4, vs_iload6, vs_nil, gv_0, gv_1, gv_2, gv_3, pv_0, pv_1, va_rf_s, Nat.reduceDiv, Nat.reduceMod, Nat.reduceAdd, Nat.reduceMul, Int.reduceToNat, true_and, and_true, and_self, cP_eq, cP_ne, cP_lt, cP_ge, cP_gt, cP_le, eL_i, eL_l, eL_r, eL_n, Option.toList_none, Option.toList_some, List.nil_append, List.cons_append, kkI, llI, nnI, rrI, jjI, kkJ, llJ, nnJ, rrJ, iiJ, zIIs, zJJs, nEF, nET, and_false, false_and, jmin, jmax, catS_n, catS_i, catS_r, catS_l, Nat.reduceLeDiff, j1eq1, n21, jt0, jt1, Bool.false_eq_true, Classical.not_not, true_or, or_true, false_or, or_false, true_imp_iff, false_imp_iff, not_true_eq_false, not_false_eq_true, jif0, jif1, jifb, ltT, ltF, leT, leF, eqT, eqF, jlt, jle, jeq, jlt0, jle0, jeq0, jge0, jgt0, jinB, jnat, clt, cle, ceq, cgt, cge, lI_add, lI_sub, lI_mul, jadd, jsub, jmul, jneg, jtol, b010, b011, pv_2t, Int.toNat_natCast, Option.some.injEq, exists_eq_left', if_true, if_false, Mg, A20]
        refine vs_ok 4 ?_
        rw [show ((gRes 238).drop 69).take 4 = [.aload 0, .getfield 12322, .iload 6, .laload] from rfl]
        simp (disch := omega) only [vs_getfield, vs_laload, vs_aload0, vs_iload6, vs_nil, gv_0, gv_1, gv_2, gv_3, pv_0, pv_1, va_rf_s, Nat.reduceDiv, Nat.reduceMod, Nat.reduceAdd, Nat.reduceMul, Int.reduceToNat, true_and, and_true, and_self, cP_eq, cP_ne, cP_lt, cP_ge, cP_gt, cP_le, eL_i, eL_l, eL_r, eL_n, Option.toList_none, Option.toList_some, List.nil_append, List.cons_append, kkI, llI, nnI, rrI, jjI, kkJ, llJ, nnJ, rrJ, iiJ, zIIs, zJJs, nEF, nET, and_false, false_and, jmin, jmax, catS_n, catS_i, catS_r, catS_l, Nat.reduceLeDiff, j1eq1, n21, jt0, jt1, Bool.false_eq_true, Classical.not_not, true_or, or_true, false_or, or_false, true_imp_iff, false_imp_iff, not_true_eq_false, not_false_eq_true, jif0, jif1, jifb, ltT, ltF, leT, leF, eqT, eqF, jlt, jle, jeq, jlt0, jle0, jeq0, jge0, jgt0, jinB, jnat, clt, cle, ceq, cgt, cge, lI_add, lI_sub, lI_mul, jadd, jsub, jmul, jneg, jtol, b010, b011, pv_2t, Int.toNat_natCast, Option.some.injEq, exists_eq_left', if_true, if_false, Mg, A20, vk]
        refine vs_ok 2 ?_
        rw [show ((gRes 238).drop 73).take 2 = [.lneg, .goto 79] from rfl, vs_lneg, vs_goto, show -Int64.ofInt (t0F S q k) = lI (-(t0F S q k)) from lI_neg _]
        show PW d 238 79 _ _ _ _
        refine vs_ok 1 ?_
        rw [show ((gRes 238).drop 79).take 1 = [.lastore] from rfl]
        simp (disch := omega) only [vs_lastore, vs_nil, gv_0, gv_1, gv_2, gv_3, pv_0, pv_1, va_rf_s, Nat.reduceDiv, Nat.reduceMod, Nat.reduceAdd, Nat.reduceMul, Int.reduceToNat, true_and, and_true, and_self, cP_eq, cP_ne, cP_lt, cP_ge, cP_gt, cP_le, eL_i, eL_l, eL_r, eL_n, Option.toList_none, Option.toList_some, List.nil_append, List.cons_append, kkI, llI, nnI, rrI, jjI, kkJ, llJ, nnJ, rrJ, iiJ, zIIs, zJJs, nEF, nET, and_false, false_and, jmin, jmax, catS_n, catS_i, catS_r, catS_l, Nat.reduceLeDiff, j1eq1, n21, jt0, jt1, Bool.false_eq_true, Classical.not_not, true_or, or_true, false_or, or_false, true_imp_iff, false_imp_iff, not_true_eq_false, not_false_eq_true, jif0, jif1, jifb, ltT, ltF, leT, leF, eqT, eqF, jlt, jle, jeq, jlt0, jle0, jeq0, jge0, jgt0, jinB, jnat, clt, cle, ceq, cgt, cge, lI_add, lI_sub, lI_mul, jadd, jsub, jmul, jneg, jtol, b010, b011, pv_2t, Int.toNat_natCast, Option.some.injEq, exists_eq_left', if_true, if_false, A20]
        refine aft _ nx1 fun u hu => ?_
        rw [nx2 u hu, if_pos cs]
      · rw [if_neg cs, Int.one_mul] at nx1 nx2
        refine vs_ok 3 ?_
        rw [show ((gRes 238).drop 59).take 3 = [.iload 6, .iload 2, .if_icmp .ge 98] from rfl]
        simp (disch := omega) only [vs_if_icmp, vs_iload2, vs_iload6, vs_nil, gv_0, gv_1, gv_2, gv_3, pv_0, pv_1, va_rf_s, Nat.reduceDiv, Nat.reduceMod, Nat.reduceAdd, Nat.reduceMul, Int.reduceToNat, true_and, and_true, and_self, cP_eq, cP_ne, cP_lt, cP_ge, cP_gt, cP_le, eL_i, eL_l, eL_r, eL_n, Option.toList_none, Option.toList_some, List.nil_append, List.cons_append, kkI, llI, nnI, rrI, jjI, kkJ, llJ, nnJ, rrJ, iiJ, zIIs, zJJs, nEF, nET, and_false, false_and, jmin, jmax, catS_n, catS_i, catS_r, catS_l, Nat.reduceLeDiff, j1eq1, n21, jt0, jt1, Bool.false_eq_true, Classical.not_not, true_or, or_true, false_or, or_false, true_imp_iff, false_imp_iff, not_true_eq_false, not_false_eq_true, jif0, jif1, jifb, ltT, ltF, leT, leF, eqT, eqF, jlt, jle, jeq, jlt0, jle0, jeq0, jge0, jgt0, jinB, jnat, clt, cle, ceq, cgt, cge, lI_add, lI_sub, lI_mul, jadd, jsub, jmul, jneg, jtol, b010, b011, pv_2t, Int.toNat_natCast, Option.some.injEq, exists_eq_left', if_true, if_false]
        refine vs_ok 7 ?_
        rw [show ((gRes 238).drop 62).take 7 = [.aload 0, .getfield 12322, .iload 6, .lload 4, .jsr_w 0, .lcmp, .ifCond .ge 75] from rfl]
        simp (disch := omega) only [vs_lcmp, vs_jsr_w, vs_ifCond, vs_getfield, vs_aload0, vs_lload4, vs_iload6, vs_nil, gv_0, gv_1, gv_2, gv_3, pv_0, pv_1, va_rf_s, Nat.reduceDiv, Nat.reduceMod, Nat.reduceAdd, Nat.reduceMul, Int.reduceToNat, true_and, and_true, and_self, cP_eq, cP_ne, cP_lt, cP_ge, cP_gt, cP_le, eL_i, eL_l, eL_r, eL_n, Option.toList_none, Option.toList_some, List.nil_append, List.cons_append, kkI, llI, nnI, rrI, jjI, kkJ, llJ, nnJ, rrJ, iiJ, zIIs, zJJs, nEF, nET, and_false, false_and, jmin, jmax, catS_n, catS_i, catS_r, catS_l, Nat.reduceLeDiff, j1eq1, n21, jt0, jt1, Bool.false_eq_true, Classical.not_not, true_or, or_true, false_or, or_false, true_imp_iff, false_imp_iff, not_true_eq_false, not_false_eq_true, jif0, jif1, jifb, ltT, ltF, leT, leF, eqT, eqF, jlt, jle, jeq, jlt0, jle0, jeq0, jge0, jgt0, jinB, jnat, clt, cle, ceq, cgt, cge, lI_add, lI_sub, lI_mul, jadd, jsub, jmul, jneg, jtol, b010, b011, pv_2t, Int.toNat_natCast, Option.some.injEq, exists_eq_left', if_true, if_false, Mg, A20]
        refine vs_ok 5 ?_
        rw [show ((gRes 238).drop 75).take 5 = [.aload 0, .getfield 12322, .iload 6, .laload, .lastore] from rfl]
        simp (disch := omega) only [vs_getfield, vs_laload, vs_lastore, vs_aload0, vs_iload6, vs_nil, gv_0, gv_1, gv_2, gv_3, pv_0, pv_1, va_rf_s, Nat.reduceDiv, Nat.reduceMod, Nat.reduceAdd, Nat.reduceMul, Int.reduceToNat, true_and, and_true, and_self, cP_eq, cP_ne, cP_lt, cP_ge, cP_gt, cP_le, eL_i, eL_l, eL_r, eL_n, Option.toList_none, Option.toList_some, List.nil_append, List.cons_append, kkI, llI, nnI, rrI, jjI, kkJ, llJ, nnJ, rrJ, iiJ, zIIs, zJJs, nEF, nET, and_false, false_and, jmin, jmax, catS_n, catS_i, catS_r, catS_l, Nat.reduceLeDiff, j1eq1, n21, jt0, jt1, Bool.false_eq_true, Classical.not_not, true_or, or_true, false_or, or_false, true_imp_iff, false_imp_iff, not_true_eq_false, not_false_eq_true, jif0, jif1, jifb, ltT, ltF, leT, leF, eqT, eqF, jlt, jle, jeq, jlt0, jle0, jeq0, jge0, jgt0, jinB, jnat, clt, cle, ceq, cgt, cge, lI_add, lI_sub, lI_mul, jadd, jsub, jmul, jneg, jtol, b010, b011, pv_2t, Int.toNat_natCast, Option.some.injEq, exists_eq_left', if_true, if_false, Mg, A20, vk]
        refine aft _ nx1 fun u hu => ?_
        rw [nx2 u hu, if_neg cs]
  -- the sum
  have l2 : ∀ (g : Hp), fi (fun q => q = m + 20) h g → (∀ u, u < n → zJ g (m + 20) u = lI (t0F S q u)) → ∀ (j k : Nat), j + k = n → PW d 238 45 [some (.ref m), some (.int (iI q)), some (.int (iI n)), some (.int (iI (if pcN q n % 2 = 0 then 1 else -1))), some (.long (lI (siN (t0F S q) k))), none, some (.int (iI k)), none, none, none] [] g Q := by
    intro g fg hJ j
    obtain ⟨Mg, A20, A18, A8, A17⟩ := dec g fg
    induction j with
    | zero =>
      intro k hk
      have e : k = n := by omega
      subst e
      rw [hsum]
      refine vs_ok 3 ?_
      rw [show ((gRes 238).drop 45).take 3 = [.iload 6, .iload 2, .if_icmp .ge 57] from rfl]
      simp (disch := omega) only [vs_if_icmp, vs_iload2, vs_iload6, vs_nil, gv_0, gv_1, gv_2, gv_3, pv_0, pv_1, va_rf_s, Nat.reduceDiv, Nat.reduceMod, Nat.reduceAdd, Nat.reduceMul, Int.reduceToNat, true_and, and_true, and_self, cP_eq, cP_ne, cP_lt, cP_ge, cP_gt, cP_le, eL_i, eL_l, eL_r, eL_n, Option.toList_none, Option.toList_some, List.nil_append, List.cons_append, kkI, llI, nnI, rrI, jjI, kkJ, llJ, nnJ, rrJ, iiJ, zIIs, zJJs, nEF, nET, and_false, false_and, jmin, jmax, catS_n, catS_i, catS_r, catS_l, Nat.reduceLeDiff, j1eq1, n21, jt0, jt1, Bool.false_eq_true, Classical.not_not, true_or, or_true, false_or, or_false, true_imp_iff, false_imp_iff, not_true_eq_false, not_false_eq_true, jif0, jif1, jifb, ltT, ltF, leT, leF, eqT, eqF, jlt, jle, jeq, jlt0, jle0, jeq0, jge0, jgt0, jinB, jnat, clt, cle, ceq, cgt, cge, lI_add, lI_sub, lI_mul, jadd, jsub, jmul, jneg, jtol, b010, b011, pv_2t, Int.toNat_natCast, Option.some.injEq, exists_eq_left', if_true, if_false]
      refine vs_ok 2 ?_
      rw [show ((gRes 238).drop 57).take 2 = [.iconst 0, .istore 6] from rfl]
      simp (disch := omega) only [vs_iconst, vs_istore6n, vs_istore6i, vs_istore6r, vs_istore6l, vs_nil, gv_0, gv_1, gv_2, gv_3, pv_0, pv_1, va_rf_s, Nat.reduceDiv, Nat.reduceMod, Nat.reduceAdd, Nat.reduceMul, Int.reduceToNat, true_and, and_true, and_self, cP_eq, cP_ne, cP_lt, cP_ge, cP_gt, cP_le, eL_i, eL_l, eL_r, eL_n, Option.toList_none, Option.toList_some, List.nil_append, List.cons_append, kkI, llI, nnI, rrI, jjI, kkJ, llJ, nnJ, rrJ, iiJ, zIIs, zJJs, nEF, nET, and_false, false_and, jmin, jmax, catS_n, catS_i, catS_r, catS_l, Nat.reduceLeDiff, j1eq1, n21, jt0, jt1, Bool.false_eq_true, Classical.not_not, true_or, or_true, false_or, or_false, true_imp_iff, false_imp_iff, not_true_eq_false, not_false_eq_true, jif0, jif1, jifb, ltT, ltF, leT, leF, eqT, eqF, jlt, jle, jeq, jlt0, jle0, jeq0, jge0, jgt0, jinB, jnat, clt, cle, ceq, cgt, cge, lI_add, lI_sub, lI_mul, jadd, jsub, jmul, jneg, jtol, b010, b011, pv_2t, Int.toNat_natCast, Option.some.injEq, exists_eq_left', if_true, if_false]
      exact l3 k 0 g (by omega) fg (fun u hu => by rw [if_neg (by omega)]; exact hJ u hu) fun u hu => absurd hu (by omega)
    | succ j ih =>
      intro k hk
      have vk := hJ k (by omega)
      have nx := ih (k + 1) (by omega)
      have es : siN (t0F S q) (k + 1) = siN (t0F S q) k + t0F S q k := rfl
      rw [es] at nx
      refine vs_ok 3 ?_
      rw [show ((gRes 238).drop 45).take 3 = [.iload 6, .iload 2, .if_icmp .ge 57] from rfl]
      simp (disch := omega) only [vs_if_icmp, vs_iload2, vs_iload6, vs_nil, gv_0, gv_1, gv_2, gv_3, pv_0, pv_1, va_rf_s, Nat.reduceDiv, Nat.reduceMod, Nat.reduceAdd, Nat.reduceMul, Int.reduceToNat, true_and, and_true, and_self, cP_eq, cP_ne, cP_lt, cP_ge, cP_gt, cP_le, eL_i, eL_l, eL_r, eL_n, Option.toList_none, Option.toList_some, List.nil_append, List.cons_append, kkI, llI, nnI, rrI, jjI, kkJ, llJ, nnJ, rrJ, iiJ, zIIs, zJJs, nEF, nET, and_false, false_and, jmin, jmax, catS_n, catS_i, catS_r, catS_l, Nat.reduceLeDiff, j1eq1, n21, jt0, jt1, Bool.false_eq_true, Classical.not_not, true_or, or_true, false_or, or_false, true_imp_iff, false_imp_iff, not_true_eq_false, not_false_eq_true, jif0, jif1, jifb, ltT, ltF, leT, leF, eqT, eqF, jlt, jle, jeq, jlt0, jle0, jeq0, jge0, jgt0, jinB, jnat, clt, cle, ceq, cgt, cge, lI_add, lI_sub, lI_mul, jadd, jsub, jmul, jneg, jtol, b010, b011, pv_2t, Int.toNat_natCast, Option.some.injEq, exists_eq_left', if_true, if_false]
      refine vs_ok 9 ?_
      rw [show ((gRes 238).drop 48).take 9 = [.lload 4, .aload 0, .getfield 12322, .iload 6, .laload, .ladd, .lstore 4, .iinc 6 1, .goto 45] from rfl]
      simp (disch := omega) only [vs_ladd, vs_goto, vs_getfield, vs_laload, vs_aload0, vs_lload4, vs_lstore4n, vs_lstore4i, vs_lstore4r, vs_lstore4l, vs_iload6, vs_iinc6n, vs_iinc6i, vs_iinc6r, vs_iinc6l, vs_nil, gv_0, gv_1, gv_2, gv_3, pv_0, pv_1, va_rf_s, Nat.reduceDiv, Nat.reduceMod, Nat.reduceAdd, Nat.reduceMul, Int.reduceToNat, true_and, and_true, and_self, cP_eq, cP_ne, cP_lt, cP_ge, cP_gt, cP_le, eL_i, eL_l, eL_r, eL_n, Option.toList_none, Option.toList_some, List.nil_append, List.cons_append, kkI, llI, nnI, rrI, jjI, kkJ, llJ, nnJ, rrJ, iiJ, zIIs, zJJs, nEF, nET, and_false, false_and, jmin, jmax, catS_n, catS_i, catS_r, catS_l, Nat.reduceLeDiff, j1eq1, n21, jt0, jt1, Bool.false_eq_true, Classical.not_not, true_or, or_true, false_or, or_false, true_imp_iff, false_imp_iff, not_true_eq_false, not_false_eq_true, jif0, jif1, jifb, ltT, ltF, leT, leF, eqT, eqF, jlt, jle, jeq, jlt0, jle0, jeq0, jge0, jgt0, jinB, jnat, clt, cle, ceq, cgt, cge, lI_add, lI_sub, lI_mul, jadd, jsub, jmul, jneg, jtol, b010, b011, pv_2t, Int.toNat_natCast, Option.some.injEq, exists_eq_left', if_true, if_false, Mg, A20, vk]
      exact nx
  have l1 : ∀ (j k : Nat) (g : Hp), j + k = n → fi (fun q => q = m + 20) h g → (∀ u, u < k → zJ g (m + 20) u = lI (t0F S q u)) → PW d 238 4 [some (.ref m), some (.int (iI q)), some (.int (iI n)), some (.int (iI (if pcN q k % 2 = 0 then 1 else -1))), some (.int (iI k)), none, none, none, none, none] [] g Q := by
    intro j
    induction j with
    | zero =>
      intro k g hk fg hJ
      have e : k = n := by omega
      subst e
      refine vs_ok 3 ?_
      rw [show ((gRes 238).drop 4).take 3 = [.iload 4, .iload 2, .if_icmp .ge 41] from rfl]
      simp (disch := omega) only [vs_if_icmp, vs_iload2, vs_iload4, vs_nil, gv_0, gv_1, gv_2, gv_3, pv_0, pv_1, va_rf_s, Nat.reduceDiv, Nat.reduceMod, Nat.reduceAdd, Nat.reduceMul, Int.reduceToNat, true_and, and_true, and_self, cP_eq, cP_ne, cP_lt, cP_ge, cP_gt, cP_le, eL_i, eL_l, eL_r, eL_n, Option.toList_none, Option.toList_some, List.nil_append, List.cons_append, kkI, llI, nnI, rrI, jjI, kkJ, llJ, nnJ, rrJ, iiJ, zIIs, zJJs, nEF, nET, and_false, false_and, jmin, jmax, catS_n, catS_i, catS_r, catS_l, Nat.reduceLeDiff, j1eq1, n21, jt0, jt1, Bool.false_eq_true, Classical.not_not, true_or, or_true, false_or, or_false, true_imp_iff, false_imp_iff, not_true_eq_false, not_false_eq_true, jif0, jif1, jifb, ltT, ltF, leT, leF, eqT, eqF, jlt, jle, jeq, jlt0, jle0, jeq0, jge0, jgt0, jinB, jnat, clt, cle, ceq, cgt, cge, lI_add, lI_sub, lI_mul, jadd, jsub, jmul, jneg, jtol, b010, b011, pv_2t, Int.toNat_natCast, Option.some.injEq, exists_eq_left', if_true, if_false]
      refine vs_ok 4 ?_
      rw [show ((gRes 238).drop 41).take 4 = [.jsr_w 0, .lstore 4, .iconst 0, .istore 6] from rfl]
      simp (disch := omega) only [vs_iconst, vs_jsr_w, vs_lstore4n, vs_lstore4i, vs_lstore4r, vs_lstore4l, vs_istore6n, vs_istore6i, vs_istore6r, vs_istore6l, vs_nil, gv_0, gv_1, gv_2, gv_3, pv_0, pv_1, va_rf_s, Nat.reduceDiv, Nat.reduceMod, Nat.reduceAdd, Nat.reduceMul, Int.reduceToNat, true_and, and_true, and_self, cP_eq, cP_ne, cP_lt, cP_ge, cP_gt, cP_le, eL_i, eL_l, eL_r, eL_n, Option.toList_none, Option.toList_some, List.nil_append, List.cons_append, kkI, llI, nnI, rrI, jjI, kkJ, llJ, nnJ, rrJ, iiJ, zIIs, zJJs, nEF, nET, and_false, false_and, jmin, jmax, catS_n, catS_i, catS_r, catS_l, Nat.reduceLeDiff, j1eq1, n21, jt0, jt1, Bool.false_eq_true, Classical.not_not, true_or, or_true, false_or, or_false, true_imp_iff, false_imp_iff, not_true_eq_false, not_false_eq_true, jif0, jif1, jifb, ltT, ltF, leT, leF, eqT, eqF, jlt, jle, jeq, jlt0, jle0, jeq0, jge0, jgt0, jinB, jnat, clt, cle, ceq, cgt, cge, lI_add, lI_sub, lI_mul, jadd, jsub, jmul, jneg, jtol, b010, b011, pv_2t, Int.toNat_natCast, Option.some.injEq, exists_eq_left', if_true, if_false]
      exact l2 g fg hJ k 0 (by omega)
    | succ j ih =>
      intro k g hk fg hJ
      obtain ⟨Mg, A20, A18, A8, A17⟩ := dec g fg
      have pk : pcN q (k + 1) = pcN q k + (if q.testBit k = true then 1 else 0) := by
        show pcN q k + (q >>> k) % 2 = _
        rw [Nat.shiftRight_eq_div_pow, tb_mod]
      by_cases c : q.testBit k = true
      · rw [if_pos c] at pk
        have x := pcX q q7 k (by omega) c
        have pv := hp (q ^^^ 2 ^ k) (by omega)
        rw [prM_even (by omega)] at pv
        have pv' : zJ g (m + 18) (q ^^^ 2 ^ k) = lI (pfF S 7 (q ^^^ 2 ^ k)) := by rw [fg.1.2.2.2.2.2.2.1 _ (by omega)]; exact pv
        have cl := clrX q q7 k (by omega) c
        have sg2 : (if pcN q (k + 1) % 2 = 0 then (1 : Int) else -1) = -(if pcN q k % 2 = 0 then (1 : Int) else -1) := by
          rw [pk]
          by_cases y : pcN q k % 2 = 0
          · rw [if_pos y, if_neg (by omega)]
          · rw [if_neg y, if_pos (by omega)]
            rfl
        have nx := ih (k + 1) (zsJ (zsJ g (m + 20) k (lI 0)) (m + 20) k (lI ((if pcN q k % 2 = 0 then 1 else -1) * pfF S 7 (q ^^^ 2 ^ k)))) (by omega) ((fg.J rfl).J rfl) fun u hu => by
          rw [zJ_sJ]
          by_cases y : u = k
          · rw [if_pos ⟨rfl, y⟩, y]
            unfold t0F
            rw [if_pos c]
            rfl
          · rw [if_neg fun w => y w.2, zJ_sJ, if_neg fun w => y w.2]
            exact hJ u (by omega)
        rw [sg2] at nx
        have sgb : (if pcN q k % 2 = 0 then (1 : Int) else -1) = 1 ∨ (if pcN q k % 2 = 0 then (1 : Int) else -1) = -1 := by split <;> omega
        generalize (if pcN q k % 2 = 0 then (1 : Int) else -1) = sg at *
        generalize pfF S 7 (q ^^^ 2 ^ k) = pf at *
        generalize hx2 : q ^^^ 2 ^ k = q2 at *
        have q2b : q2 < 128 := by omega
        refine vs_ok 3 ?_
        rw [show ((gRes 238).drop 4).take 3 = [.iload 4, .iload 2, .if_icmp .ge 41] from rfl]
        simp (disch := omega) only [vs_if_icmp, vs_iload2, vs_iload4, vs_nil, gv_0, gv_1, gv_2, gv_3, pv_0, pv_1, va_rf_s, Nat.reduceDiv, Nat.reduceMod, Nat.reduceAdd, Nat.reduceMul, Int.reduceToNat, true_and, and_true, and_self, cP_eq, cP_ne, cP_lt, cP_ge, cP_gt, cP_le, eL_i, eL_l, eL_r, eL_n, Option.toList_none, Option.toList_some, List.nil_append, List.cons_append, kkI, llI, nnI, rrI, jjI, kkJ, llJ, nnJ, rrJ, iiJ, zIIs, zJJs, nEF, nET, and_false, false_and, jmin, jmax, catS_n, catS_i, catS_r, catS_l, Nat.reduceLeDiff, j1eq1, n21, jt0, jt1, Bool.false_eq_true, Classical.not_not, true_or, or_true, false_or, or_false, true_imp_iff, false_imp_iff, not_true_eq_false, not_false_eq_true, jif0, jif1, jifb, ltT, ltF, leT, leF, eqT, eqF, jlt, jle, jeq, jlt0, jle0, jeq0, jge0, jgt0, jinB, jnat, clt, cle, ceq, cgt, cge, lI_add, lI_sub, lI_mul, jadd, jsub, jmul, jneg, jtol, b010, b011, pv_2t, Int.toNat_natCast, Option.some.injEq, exists_eq_left', if_true, if_false]
        refine vs_ok 5 ?_
        rw [show ((gRes 238).drop 7).take 5 = [.aload 0, .getfield 12322, .iload 4, .jsr_w 0, .lastore] from rfl]
        simp (disch := omega) only [vs_jsr_w, vs_getfield, vs_lastore, vs_aload0, vs_iload4, vs_nil, gv_0, gv_1, gv_2, gv_3, pv_0, pv_1, va_rf_s, Nat.reduceDiv, Nat.reduceMod, Nat.reduceAdd, Nat.reduceMul, Int.reduceToNat, true_and, and_true, and_self, cP_eq, cP_ne, cP_lt, cP_ge, cP_gt, cP_le, eL_i, eL_l, eL_r, eL_n, Option.toList_none, Option.toList_some, List.nil_append, List.cons_append, kkI, llI, nnI, rrI, jjI, kkJ, llJ, nnJ, rrJ, iiJ, zIIs, zJJs, nEF, nET, and_false, false_and, jmin, jmax, catS_n, catS_i, catS_r, catS_l, Nat.reduceLeDiff, j1eq1, n21, jt0, jt1, Bool.false_eq_true, Classical.not_not, true_or, or_true, false_or, or_false, true_imp_iff, false_imp_iff, not_true_eq_false, not_false_eq_true, jif0, jif1, jifb, ltT, ltF, leT, leF, eqT, eqF, jlt, jle, jeq, jlt0, jle0, jeq0, jge0, jgt0, jinB, jnat, clt, cle, ceq, cgt, cge, lI_add, lI_sub, lI_mul, jadd, jsub, jmul, jneg, jtol, b010, b011, pv_2t, Int.toNat_natCast, Option.some.injEq, exists_eq_left', if_true, if_false, Mg, A20]
        refine vs_ok 6 ?_
        rw [show ((gRes 238).drop 12).take 6 = [.iload 1, .iload 4, .ishr, .iconst 1, .iand, .ifCond .ne 19] from rfl]
        simp (disch := omega) only [vs_iconst, vs_ifCond, vs_iload1, vs_iload4, vs_nil, gv_0, gv_1, gv_2, gv_3, pv_0, pv_1, va_rf_s, vs_iand, vs_ishr, Nat.reduceDiv, Nat.reduceMod, Nat.reduceAdd, Nat.reduceMul, Int.reduceToNat, true_and, and_true, and_self, cP_eq, cP_ne, cP_lt, cP_ge, cP_gt, cP_le, eL_i, eL_l, eL_r, eL_n, Option.toList_none, Option.toList_some, List.nil_append, List.cons_append, kkI, llI, nnI, rrI, jjI, kkJ, llJ, nnJ, rrJ, iiJ, zIIs, zJJs, nEF, nET, and_false, false_and, jmin, jmax, catS_n, catS_i, catS_r, catS_l, Nat.reduceLeDiff, j1eq1, n21, jt0, jt1, Bool.false_eq_true, Classical.not_not, true_or, or_true, false_or, or_false, true_imp_iff, false_imp_iff, not_true_eq_false, not_false_eq_true, jif0, jif1, jifb, ltT, ltF, leT, leF, eqT, eqF, jlt, jle, jeq, jlt0, jle0, jeq0, jge0, jgt0, jinB, jnat, clt, cle, ceq, cgt, cge, lI_add, lI_sub, lI_mul, jadd, jsub, jmul, jneg, jtol, b010, b011, pv_2t, Int.toNat_natCast, Option.some.injEq, exists_eq_left', if_true, if_false, jbit, c]
        refine vs_ok 5 ?_
        rw [show ((gRes 238).drop 19).take 5 = [.aload 0, .getfield 12322, .iload 4, .iload 3, .i2l] from rfl]
        simp (disch := omega) only [vs_i2l, vs_getfield, vs_aload0, vs_iload3, vs_iload4, vs_nil, gv_0, gv_1, gv_2, gv_3, pv_0, pv_1, va_rf_s, Nat.reduceDiv, Nat.reduceMod, Nat.reduceAdd, Nat.reduceMul, Int.reduceToNat, true_and, and_true, and_self, cP_eq, cP_ne, cP_lt, cP_ge, cP_gt, cP_le, eL_i, eL_l, eL_r, eL_n, Option.toList_none, Option.toList_some, List.nil_append, List.cons_append, kkI, llI, nnI, rrI, jjI, kkJ, llJ, nnJ, rrJ, iiJ, zIIs, zJJs, nEF, nET, and_false, false_and, jmin, jmax, catS_n, catS_i, catS_r, catS_l, Nat.reduceLeDiff, j1eq1, n21, jt0, jt1, Bool.false_eq_true, Classical.not_not, true_or, or_true, false_or, or_false, true_imp_iff, false_imp_iff, not_true_eq_false, not_false_eq_true, jif0, jif1, jifb, ltT, ltF, leT, leF, eqT, eqF, jlt, jle, jeq, jlt0, jle0, jeq0, jge0, jgt0, jinB, jnat, clt, cle, ceq, cgt, cge, lI_add, lI_sub, lI_mul, jadd, jsub, jmul, jneg, jtol, b010, b011, pv_2t, Int.toNat_natCast, Option.some.injEq, exists_eq_left', if_true, if_false, Mg, A20]
        refine vs_ok 9 ?_
        rw [show ((gRes 238).drop 24).take 9 = [.aload 0, .getfield 12302, .iload 1, .iconst 1, .iload 4, .ishl, .iconst (-1), .ixor, .iand] from rfl]
        simp (disch := omega) only [vs_iconst, vs_getfield, vs_aload0, vs_iload1, vs_iload4, vs_nil, gv_0, gv_1, gv_2, gv_3, pv_0, pv_1, va_rf_s, vs_iand, vs_ixor, vs_ishl, Nat.reduceDiv, Nat.reduceMod, Nat.reduceAdd, Nat.reduceMul, Int.reduceToNat, true_and, and_true, and_self, cP_eq, cP_ne, cP_lt, cP_ge, cP_gt, cP_le, eL_i, eL_l, eL_r, eL_n, Option.toList_none, Option.toList_some, List.nil_append, List.cons_append, kkI, llI, nnI, rrI, jjI, kkJ, llJ, nnJ, rrJ, iiJ, zIIs, zJJs, nEF, nET, and_false, false_and, jmin, jmax, catS_n, catS_i, catS_r, catS_l, Nat.reduceLeDiff, j1eq1, n21, jt0, jt1, Bool.false_eq_true, Classical.not_not, true_or, or_true, false_or, or_false, true_imp_iff, false_imp_iff, not_true_eq_false, not_false_eq_true, jif0, jif1, jifb, ltT, ltF, leT, leF, eqT, eqF, jlt, jle, jeq, jlt0, jle0, jeq0, jge0, jgt0, jinB, jnat, clt, cle, ceq, cgt, cge, lI_add, lI_sub, lI_mul, jadd, jsub, jmul, jneg, jtol, b010, b011, pv_2t, Int.toNat_natCast, Option.some.injEq, exists_eq_left', if_true, if_false, Mg, A18, jshl1, jandn7, cl]
        refine vs_ok 4 ?_
        rw [show ((gRes 238).drop 33).take 4 = [.laload, .lmul, .lastore, .iload 3] from rfl]
        simp (disch := omega) only [vs_lmul, vs_laload, vs_lastore, vs_iload3, vs_nil, gv_0, gv_1, gv_2, gv_3, pv_0, pv_1, va_rf_s, Nat.reduceDiv, Nat.reduceMod, Nat.reduceAdd, Nat.reduceMul, Int.reduceToNat, true_and, and_true, and_self, cP_eq, cP_ne, cP_lt, cP_ge, cP_gt, cP_le, eL_i, eL_l, eL_r, eL_n, Option.toList_none, Option.toList_some, List.nil_append, List.cons_append, kkI, llI, nnI, rrI, jjI, kkJ, llJ, nnJ, rrJ, iiJ, zIIs, zJJs, nEF, nET, and_false, false_and, jmin, jmax, catS_n, catS_i, catS_r, catS_l, Nat.reduceLeDiff, j1eq1, n21, jt0, jt1, Bool.false_eq_true, Classical.not_not, true_or, or_true, false_or, or_false, true_imp_iff, false_imp_iff, not_true_eq_false, not_false_eq_true, jif0, jif1, jifb, ltT, ltF, leT, leF, eqT, eqF, jlt, jle, jeq, jlt0, jle0, jeq0, jge0, jgt0, jinB, jnat, clt, cle, ceq, cgt, cge, lI_add, lI_sub, lI_mul, jadd, jsub, jmul, jneg, jtol, b010, b011, pv_2t, Int.toNat_natCast, Option.some.injEq, exists_eq_left', if_true, if_false, A18, A20, pv']
        refine vs_ok 4 ?_
        rw [show ((gRes 238).drop 37).take 4 = [.ineg, .istore 3, .iinc 4 1, .goto 4] from rfl]
        simp (disch := omega) only [vs_ineg, vs_istore3i, vs_iinc4i, vs_goto, jneg, jadd]
        exact nx
      · rw [if_neg c] at pk
        have nx := ih (k + 1) (zsJ g (m + 20) k (lI 0)) (by omega) (fg.J rfl) fun u hu => by
          rw [zJ_sJ]
          by_cases y : u = k
          · rw [if_pos ⟨rfl, y⟩, y]
            unfold t0F
            rw [if_neg c]
          · rw [if_neg fun w => y w.2]
            exact hJ u (by omega)
        rw [pk] at nx
        refine vs_ok 3 ?_
        rw [show ((gRes 238).drop 4).take 3 = [.iload 4, .iload 2, .if_icmp .ge 41] from rfl]
        simp (disch := omega) only [vs_if_icmp, vs_iload2, vs_iload4, vs_nil, gv_0, gv_1, gv_2, gv_3, pv_0, pv_1, va_rf_s, Nat.reduceDiv, Nat.reduceMod, Nat.reduceAdd, Nat.reduceMul, Int.reduceToNat, true_and, and_true, and_self, cP_eq, cP_ne, cP_lt, cP_ge, cP_gt, cP_le, eL_i, eL_l, eL_r, eL_n, Option.toList_none, Option.toList_some, List.nil_append, List.cons_append, kkI, llI, nnI, rrI, jjI, kkJ, llJ, nnJ, rrJ, iiJ, zIIs, zJJs, nEF, nET, and_false, false_and, jmin, jmax, catS_n, catS_i, catS_r, catS_l, Nat.reduceLeDiff, j1eq1, n21, jt0, jt1, Bool.false_eq_true, Classical.not_not, true_or, or_true, false_or, or_false, true_imp_iff, false_imp_iff, not_true_eq_false, not_false_eq_true, jif0, jif1, jifb, ltT, ltF, leT, leF, eqT, eqF, jlt, jle, jeq, jlt0, jle0, jeq0, jge0, jgt0, jinB, jnat, clt, cle, ceq, cgt, cge, lI_add, lI_sub, lI_mul, jadd, jsub, jmul, jneg, jtol, b010, b011, pv_2t, Int.toNat_natCast, Option.some.injEq, exists_eq_left', if_true, if_false]
        refine vs_ok 5 ?_
        rw [show ((gRes 238).drop 7).take 5 = [.aload 0, .getfield 12322, .iload 4, .jsr_w 0, .lastore] from rfl]
        simp (disch := omega) only [vs_jsr_w, vs_getfield, vs_lastore, vs_aload0, vs_iload4, vs_nil, gv_0, gv_1, gv_2, gv_3, pv_0, pv_1, va_rf_s, Nat.reduceDiv, Nat.reduceMod, Nat.reduceAdd, Nat.reduceMul, Int.reduceToNat, true_and, and_true, and_self, cP_eq, cP_ne, cP_lt, cP_ge, cP_gt, cP_le, eL_i, eL_l, eL_r, eL_n, Option.toList_none, Option.toList_some, List.nil_append, List.cons_append, kkI, llI, nnI, rrI, jjI, kkJ, llJ, nnJ, rrJ, iiJ, zIIs, zJJs, nEF, nET, and_false, false_and, jmin, jmax, catS_n, catS_i, catS_r, catS_l, Nat.reduceLeDiff, j1eq1, n21, jt0, jt1, Bool.false_eq_true, Classical.not_not, true_or, or_true, false_or, or_false, true_imp_iff, false_imp_iff, not_true_eq_false, not_false_eq_true, jif0, jif1, jifb, ltT, ltF, leT, leF, eqT, eqF, jlt, jle, jeq, jlt0, jle0, jeq0, jge0, jgt0, jinB, jnat, clt, cle, ceq, cgt, cge, lI_add, lI_sub, lI_mul, jadd, jsub, jmul, jneg, jtol, b010, b011, pv_2t, Int.toNat_natCast, Option.some.injEq, exists_eq_left', if_true, if_false, Mg, A20]
        refine vs_ok 6 ?_
        rw [show ((gRes 238).drop 12).take 6 = [.iload 1, .iload 4, .ishr, .iconst 1, .iand, .ifCond .ne 19] from rfl]
        simp (disch := omega) only [vs_iconst, vs_ifCond, vs_iload1, vs_iload4, vs_nil, gv_0, gv_1, gv_2, gv_3, pv_0, pv_1, va_rf_s, vs_iand, vs_ishr, Nat.reduceDiv, Nat.reduceMod, Nat.reduceAdd, Nat.reduceMul, Int.reduceToNat, true_and, and_true, and_self, cP_eq, cP_ne, cP_lt, cP_ge, cP_gt, cP_le, eL_i, eL_l, eL_r, eL_n, Option.toList_none, Option.toList_some, List.nil_append, List.cons_append, kkI, llI, nnI, rrI, jjI, kkJ, llJ, nnJ, rrJ, iiJ, zIIs, zJJs, nEF, nET, and_false, false_and, jmin, jmax, catS_n, catS_i, catS_r, catS_l, Nat.reduceLeDiff, j1eq1, n21, jt0, jt1, Bool.false_eq_true, Classical.not_not, true_or, or_true, false_or, or_false, true_imp_iff, false_imp_iff, not_true_eq_false, not_false_eq_true, jif0, jif1, jifb, ltT, ltF, leT, leF, eqT, eqF, jlt, jle, jeq, jlt0, jle0, jeq0, jge0, jgt0, jinB, jnat, clt, cle, ceq, cgt, cge, lI_add, lI_sub, lI_mul, jadd, jsub, jmul, jneg, jtol, b010, b011, pv_2t, Int.toNat_natCast, Option.some.injEq, exists_eq_left', if_true, if_false, jbit, c]
        refine vs_ok 1 ?_
        rw [show ((gRes 238).drop 18).take 1 = [.goto 39] from rfl]
        simp (disch := omega) only [vs_goto, vs_nil, gv_0, gv_1, gv_2, gv_3, pv_0, pv_1, va_rf_s, Nat.reduceDiv, Nat.reduceMod, Nat.reduceAdd, Nat.reduceMul, Int.reduceToNat, true_and, and_true, and_self, cP_eq, cP_ne, cP_lt, cP_ge, cP_gt, cP_le, eL_i, eL_l, eL_r, eL_n, Option.toList_none, Option.toList_some, List.nil_append, List.cons_append, kkI, llI, nnI, rrI, jjI, kkJ, llJ, nnJ, rrJ, iiJ, zIIs, zJJs, nEF, nET, and_false, false_and, jmin, jmax, catS_n, catS_i, catS_r, catS_l, Nat.reduceLeDiff, j1eq1, n21, jt0, jt1, Bool.false_eq_true, Classical.not_not, true_or, or_true, false_or, or_false, true_imp_iff, false_imp_iff, not_true_eq_false, not_false_eq_true, jif0, jif1, jifb, ltT, ltF, leT, leF, eqT, eqF, jlt, jle, jeq, jlt0, jle0, jeq0, jge0, jgt0, jinB, jnat, clt, cle, ceq, cgt, cge, lI_add, lI_sub, lI_mul, jadd, jsub, jmul, jneg, jtol, b010, b011, pv_2t, Int.toNat_natCast, Option.some.injEq, exists_eq_left', if_true, if_false]
        refine vs_ok 2 ?_
        rw [show ((gRes 238).drop 39).take 2 = [.iinc 4 1, .goto 4] from rfl]
        simp (disch := omega) only [vs_goto, vs_iinc4n, vs_iinc4i, vs_iinc4r, vs_iinc4l, vs_nil, gv_0, gv_1, gv_2, gv_3, pv_0, pv_1, va_rf_s, Nat.reduceDiv, Nat.reduceMod, Nat.reduceAdd, Nat.reduceMul, Int.reduceToNat, true_and, and_true, and_self, cP_eq, cP_ne, cP_lt, cP_ge, cP_gt, cP_le, eL_i, eL_l, eL_r, eL_n, Option.toList_none, Option.toList_some, List.nil_append, List.cons_append, kkI, llI, nnI, rrI, jjI, kkJ, llJ, nnJ, rrJ, iiJ, zIIs, zJJs, nEF, nET, and_false, false_and, jmin, jmax, catS_n, catS_i, catS_r, catS_l, Nat.reduceLeDiff, j1eq1, n21, jt0, jt1, Bool.false_eq_true, Classical.not_not, true_or, or_true, false_or, or_false, true_imp_iff, false_imp_iff, not_true_eq_false, not_false_eq_true, jif0, jif1, jifb, ltT, ltF, leT, leF, eqT, eqF, jlt, jle, jeq, jlt0, jle0, jeq0, jge0, jgt0, jinB, jnat, clt, cle, ceq, cgt, cge, lI_add, lI_sub, lI_mul, jadd, jsub, jmul, jneg, jtol, b010, b011, pv_2t, Int.toNat_natCast, Option.some.injEq, exists_eq_left', if_true, if_false]
        exact nx
  refine vs_ok 4 ?_
  rw [show ((gRes 238).drop 0).take 4 = [.iconst 1, .istore 3, .iconst 0, .istore 4] from rfl]
  simp (disch := omega) only [vs_iconst, vs_istore3n, vs_istore3i, vs_istore3r, vs_istore3l, vs_istore4n, vs_istore4i, vs_istore4r, vs_istore4l, vs_nil, gv_0, gv_1, gv_2, gv_3, pv_0, pv_1, va_rf_s, Nat.reduceDiv, Nat.reduceMod, Nat.reduceAdd, Nat.reduceMul, Int.reduceToNat, true_and, and_true, and_self, cP_eq, cP_ne, cP_lt, cP_ge, cP_gt, cP_le, eL_i, eL_l, eL_r, eL_n, Option.toList_none, Option.toList_some, List.nil_append, List.cons_append, kkI, llI, nnI, rrI, jjI, kkJ, llJ, nnJ, rrJ, iiJ, zIIs, zJJs, nEF, nET, and_false, false_and, jmin, jmax, catS_n, catS_i, catS_r, catS_l, Nat.reduceLeDiff, j1eq1, n21, jt0, jt1, Bool.false_eq_true, Classical.not_not, true_or, or_true, false_or, or_false, true_imp_iff, false_imp_iff, not_true_eq_false, not_false_eq_true, jif0, jif1, jifb, ltT, ltF, leT, leF, eqT, eqF, jlt, jle, jeq, jlt0, jle0, jeq0, jge0, jgt0, jinB, jnat, clt, cle, ceq, cgt, cge, lI_add, lI_sub, lI_mul, jadd, jsub, jmul, jneg, jtol, b010, b011, pv_2t, Int.toNat_natCast, Option.some.injEq, exists_eq_left', if_true, if_false]
  exact l1 n 0 h (by omega) fi.rf fun u hu => absurd hu (by omega)
