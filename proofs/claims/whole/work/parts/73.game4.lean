/-! Game: keep, play -/
theorem gcI_c {a b B : Int} (ha : 0 ≤ a ∧ a ≤ B) (hb : 0 ≤ b ∧ b ≤ B) : 0 ≤ gcI a b ∧ gcI a b ≤ B ∧ (0 < a ∨ 0 < b → 0 < gcI a b) := by
  unfold gcI
  refine ⟨by omega, ?_, fun c => ?_⟩
  · by_cases c : a.toNat = 0
    · rw [c, Nat.gcd_zero_left]
      omega
    · have := Nat.gcd_le_left b.toNat (Nat.pos_of_ne_zero c)
      omega
  · have : 0 < Nat.gcd a.toNat b.toNat := by
      rcases c with c | c
      · exact Nat.gcd_pos_of_pos_left _ (by omega)
      · exact Nat.gcd_pos_of_pos_right _ (by omega)
    omega
def gcF (T : Nat → Int) : Nat → Int
  | 0 => 0
  | n + 1 => gcI (T n) (gcF T n)
theorem gcF_b {T : Nat → Int} (hT : ∀ i, i < 7 → 0 ≤ T i ∧ T i ≤ 900000) : ∀ n, n ≤ 7 → 0 ≤ gcF T n ∧ gcF T n ≤ 900000
  | 0, _ => by unfold gcF; omega
  | n + 1, h => by
    have := gcF_b hT n (by omega)
    have := gcI_c (B := 900000) (hT n (by omega)) this
    exact ⟨this.1, this.2.1⟩
theorem gcF_pos {T : Nat → Int} (hT : ∀ i, i < 7 → 0 ≤ T i ∧ T i ≤ 900000) {j : Nat} (hj : 0 < T j) : ∀ n, n ≤ 7 → j < n → 0 < gcF T n
  | 0, _, h => absurd h (by omega)
  | n + 1, h, hjn => by
    have h1 := gcF_b hT n (by omega)
    have h2 := gcI_c (B := 900000) (hT n (by omega)) h1
    refine h2.2.2 ?_
    by_cases c : j = n
    · rw [← c]
      exact Or.inl hj
    · exact Or.inr (gcF_pos hT hj n (by omega) (by omega))
theorem t_Game_keep {d : Nat} {h : Hp} {x n : Nat} {mem : Nat → Nat} {T : Nat → Int} {Q : Nat → Option Value → Hp → Prop} (ho : objA h x 2 gaL) (h4 : zI h x 4 = iI n) (hn : n ≤ 7) (hm : ∀ i, i < n → mem i < 12 ∧ zI h (x + 1) i = iI (mem i)) (hT : ∀ i, i < 7 → 0 ≤ T i ∧ T i ≤ 900000) (hpos : ∃ j, j < n ∧ 0 < T j) (ht : ∀ i, i < 7 → zJ h (x + 3) i = lI (T i)) (hinj : ∀ i j, i < n → j < n → mem i = mem j → i = j)
    (hq : ∀ h', fi (fun q => q = x + 4) h h' → (∀ i, i < n → zI h' (x + 4) (mem i) = iI (T i / gcF T n)) → (∀ k, k < 12 → (∀ i, i < n → mem i ≠ k) → zI h' (x + 4) k = iI 0) → Q 0 none h') : PR (d + 2) m_Game_keep [.ref x] h Q := by
  have N := gaF ho
  obtain ⟨j0, hj0, hp0⟩ := hpos
  have gp := gcF_pos hT hp0 n hn hj0
  have gb := gcF_b hT n hn
  show PW (d + 2) 31 0 [some (.ref x), none, none, none] [] h Q
  have l2 : ∀ (k i : Nat) (g : Hp), k + i = n → fi (fun q => q = x + 4) h g → (∀ j, j < i → zI g (x + 4) (mem j) = iI (T j / gcF T n)) → (∀ q, q < 12 → (∀ j, j < i → mem j ≠ q) → zI g (x + 4) q = iI 0) → PW (d + 2) 31 23 [some (.ref x), some (.long (lI (gcF T n))), none, some (.int (iI i))] [] g Q := by
    intro k
    induction k with
    | zero =>
      intro i g hk f h1 h2
      have e : i = n := by omega
      subst e
      have N2 := gaF (ho.fi f)
      have gx : zI g x = zI h x := f.1.2.2.2.2.2.1 _ (by omega)
      refine vs_ok 4 ?_
      rw [show ((gRes 31).drop 23).take 4 = [.iload 3, .aload 0, .getfield 2040, .if_icmp .ge 47] from rfl]
      simp (disch := omega) only [vs_if_icmp, vs_getfield, vs_aload0, vs_iload3, vs_nil, gv_0, gv_1, gv_2, gv_3, pv_0, pv_1, va_rf_s, Nat.reduceDiv, Nat.reduceMod, Nat.reduceAdd, Nat.reduceMul, Int.reduceToNat, true_and, and_true, and_self, cP_eq, cP_ne, cP_lt, cP_ge, cP_gt, cP_le, eL_i, eL_l, eL_r, eL_n, Option.toList_none, Option.toList_some, List.nil_append, List.cons_append, kkI, llI, nnI, rrI, jjI, kkJ, llJ, nnJ, rrJ, iiJ, zIIs, zJJs, nEF, nET, and_false, false_and, jmin, jmax, catS_n, catS_i, catS_r, catS_l, Nat.reduceLeDiff, j1eq1, n21, jt0, jt1, Bool.false_eq_true, Classical.not_not, true_or, or_true, false_or, or_false, true_imp_iff, false_imp_iff, not_true_eq_false, not_false_eq_true, jif0, jif1, jifb, ltT, ltF, leT, leF, eqT, eqF, jlt, jle, jeq, jlt0, jle0, jeq0, jge0, jgt0, jinB, jnat, clt, cle, ceq, cgt, cge, lI_add, lI_sub, lI_mul, jadd, jsub, jmul, jneg, jtol, b010, b011, pv_2t, Int.toNat_natCast, Option.some.injEq, exists_eq_left', if_true, if_false, N2, gx, h4]
      refine vs_ok 1 ?_
      rw [show ((gRes 31).drop 47).take 1 = [.return_] from rfl]
      simp (disch := omega) only [vs_return_, vs_nil, gv_0, gv_1, gv_2, gv_3, pv_0, pv_1, va_rf_s, Nat.reduceDiv, Nat.reduceMod, Nat.reduceAdd, Nat.reduceMul, Int.reduceToNat, true_and, and_true, and_self, cP_eq, cP_ne, cP_lt, cP_ge, cP_gt, cP_le, eL_i, eL_l, eL_r, eL_n, Option.toList_none, Option.toList_some, List.nil_append, List.cons_append, kkI, llI, nnI, rrI, jjI, kkJ, llJ, nnJ, rrJ, iiJ, zIIs, zJJs, nEF, nET, and_false, false_and, jmin, jmax, catS_n, catS_i, catS_r, catS_l, Nat.reduceLeDiff, j1eq1, n21, jt0, jt1, Bool.false_eq_true, Classical.not_not, true_or, or_true, false_or, or_false, true_imp_iff, false_imp_iff, not_true_eq_false, not_false_eq_true, jif0, jif1, jifb, ltT, ltF, leT, leF, eqT, eqF, jlt, jle, jeq, jlt0, jle0, jeq0, jge0, jgt0, jinB, jnat, clt, cle, ceq, cgt, cge, lI_add, lI_sub, lI_mul, jadd, jsub, jmul, jneg, jtol, b010, b011, pv_2t, Int.toNat_natCast, Option.some.injEq, exists_eq_left', if_true, if_false, show gRc 31 = 0 from rfl]
      exact hq g f h1 h2
    | succ k ih =>
      intro i g hk f h1 h2
      have N2 := gaF (ho.fi f)
      have r := f.1.2.2.2.2.2.1
      have gx : zI g x = zI h x := r _ (by omega)
      have g1 : zI g (x + 1) = zI h (x + 1) := r _ (by omega)
      have g3 : zJ g (x + 3) = zJ h (x + 3) := f.1.2.2.2.2.2.2.1 _ (by omega)
      obtain ⟨m1, m2⟩ := hm i (by omega)
      have ti := hT i (by omega)
      have dv : 0 ≤ T i / gcF T n ∧ T i / gcF T n ≤ T i := ⟨Int.ediv_nonneg ti.1 gb.1, Int.ediv_le_self _ ti.1⟩
      refine vs_ok 8 ?_
      rw [show ((gRes 31).drop 23).take 8 = [.iload 3, .aload 0, .getfield 2040, .if_icmp .ge 47, .lload 1, .jsr_w 0, .lcmp, .ifCond .eq 47] from rfl]
      simp (disch := omega) only [vs_lcmp, vs_jsr_w, vs_if_icmp, vs_ifCond, vs_getfield, vs_aload0, vs_lload1, vs_iload3, vs_nil, gv_0, gv_1, gv_2, gv_3, pv_0, pv_1, va_rf_s, Nat.reduceDiv, Nat.reduceMod, Nat.reduceAdd, Nat.reduceMul, Int.reduceToNat, true_and, and_true, and_self, cP_eq, cP_ne, cP_lt, cP_ge, cP_gt, cP_le, eL_i, eL_l, eL_r, eL_n, Option.toList_none, Option.toList_some, List.nil_append, List.cons_append, kkI, llI, nnI, rrI, jjI, kkJ, llJ, nnJ, rrJ, iiJ, zIIs, zJJs, nEF, nET, and_false, false_and, jmin, jmax, catS_n, catS_i, catS_r, catS_l, Nat.reduceLeDiff, j1eq1, n21, jt0, jt1, Bool.false_eq_true, Classical.not_not, true_or, or_true, false_or, or_false, true_imp_iff, false_imp_iff, not_true_eq_false, not_false_eq_true, jif0, jif1, jifb, ltT, ltF, leT, leF, eqT, eqF, jlt, jle, jeq, jlt0, jle0, jeq0, jge0, jgt0, jinB, jnat, clt, cle, ceq, cgt, cge, lI_add, lI_sub, lI_mul, jadd, jsub, jmul, jneg, jtol, b010, b011, pv_2t, Int.toNat_natCast, Option.some.injEq, exists_eq_left', if_true, if_false, N2, gx, h4]
      refine vs_ok 14 ?_
      rw [show ((gRes 31).drop 31).take 14 = [.aload 0, .getfield 2032, .aload 0, .getfield 2002, .iload 3, .iaload, .aload 0, .getfield 2022, .iload 3, .laload, .lload 1, .ldiv, .l2i, .iastore] from rfl]
      simp (disch := omega) only [vs_ldiv, vs_getfield, vs_iaload, vs_laload, vs_iastore, vs_aload0, vs_lload1, vs_iload3, vs_nil, gv_0, gv_1, gv_2, gv_3, pv_0, pv_1, va_rf_s, vs_l2i, Nat.reduceDiv, Nat.reduceMod, Nat.reduceAdd, Nat.reduceMul, Int.reduceToNat, true_and, and_true, and_self, cP_eq, cP_ne, cP_lt, cP_ge, cP_gt, cP_le, eL_i, eL_l, eL_r, eL_n, Option.toList_none, Option.toList_some, List.nil_append, List.cons_append, kkI, llI, nnI, rrI, jjI, kkJ, llJ, nnJ, rrJ, iiJ, zIIs, zJJs, nEF, nET, and_false, false_and, jmin, jmax, catS_n, catS_i, catS_r, catS_l, Nat.reduceLeDiff, j1eq1, n21, jt0, jt1, Bool.false_eq_true, Classical.not_not, true_or, or_true, false_or, or_false, true_imp_iff, false_imp_iff, not_true_eq_false, not_false_eq_true, jif0, jif1, jifb, ltT, ltF, leT, leF, eqT, eqF, jlt, jle, jeq, jlt0, jle0, jeq0, jge0, jgt0, jinB, jnat, clt, cle, ceq, cgt, cge, lI_add, lI_sub, lI_mul, jadd, jsub, jmul, jneg, jtol, b010, b011, pv_2t, Int.toNat_natCast, Option.some.injEq, exists_eq_left', if_true, if_false, N2, g1, g3, m2, ht i (by omega), jldiv, jtoi, jl0]
      refine vs_ok 2 ?_
      rw [show ((gRes 31).drop 45).take 2 = [.iinc 3 1, .goto 23] from rfl]
      simp (disch := omega) only [vs_goto, vs_iinc3n, vs_iinc3i, vs_iinc3r, vs_iinc3l, vs_nil, gv_0, gv_1, gv_2, gv_3, pv_0, pv_1, va_rf_s, Nat.reduceDiv, Nat.reduceMod, Nat.reduceAdd, Nat.reduceMul, Int.reduceToNat, true_and, and_true, and_self, cP_eq, cP_ne, cP_lt, cP_ge, cP_gt, cP_le, eL_i, eL_l, eL_r, eL_n, Option.toList_none, Option.toList_some, List.nil_append, List.cons_append, kkI, llI, nnI, rrI, jjI, kkJ, llJ, nnJ, rrJ, iiJ, zIIs, zJJs, nEF, nET, and_false, false_and, jmin, jmax, catS_n, catS_i, catS_r, catS_l, Nat.reduceLeDiff, j1eq1, n21, jt0, jt1, Bool.false_eq_true, Classical.not_not, true_or, or_true, false_or, or_false, true_imp_iff, false_imp_iff, not_true_eq_false, not_false_eq_true, jif0, jif1, jifb, ltT, ltF, leT, leF, eqT, eqF, jlt, jle, jeq, jlt0, jle0, jeq0, jge0, jgt0, jinB, jnat, clt, cle, ceq, cgt, cge, lI_add, lI_sub, lI_mul, jadd, jsub, jmul, jneg, jtol, b010, b011, pv_2t, Int.toNat_natCast, Option.some.injEq, exists_eq_left', if_true, if_false]
      refine ih (i + 1) _ (by omega) (f.I rfl) (fun j hj => ?_) fun q hq2 hne => ?_
      · rw [zI_s]
        by_cases y : j = i
        · rw [if_pos ⟨rfl, by rw [y]⟩, y]
        · rw [if_neg (fun z => y (hinj j i (by omega) (by omega) z.2))]
          exact h1 j (by omega)
      · rw [zI_s, if_neg (fun z => hne i (by omega) z.2.symm)]
        exact h2 q hq2 fun j hj => hne j (by omega)
  have l1 : ∀ (k i : Nat), k + i = n → PW (d + 2) 31 4 [some (.ref x), some (.long (lI (gcF T i))), none, some (.int (iI i))] [] h Q := by
    intro k
    induction k with
    | zero =>
      intro i hk
      have e : i = n := by omega
      subst e
      refine vs_ok 4 ?_
      rw [show ((gRes 31).drop 4).take 4 = [.iload 3, .aload 0, .getfield 2040, .if_icmp .ge 17] from rfl]
      simp (disch := omega) only [vs_if_icmp, vs_getfield, vs_aload0, vs_iload3, vs_nil, gv_0, gv_1, gv_2, gv_3, pv_0, pv_1, va_rf_s, Nat.reduceDiv, Nat.reduceMod, Nat.reduceAdd, Nat.reduceMul, Int.reduceToNat, true_and, and_true, and_self, cP_eq, cP_ne, cP_lt, cP_ge, cP_gt, cP_le, eL_i, eL_l, eL_r, eL_n, Option.toList_none, Option.toList_some, List.nil_append, List.cons_append, kkI, llI, nnI, rrI, jjI, kkJ, llJ, nnJ, rrJ, iiJ, zIIs, zJJs, nEF, nET, and_false, false_and, jmin, jmax, catS_n, catS_i, catS_r, catS_l, Nat.reduceLeDiff, j1eq1, n21, jt0, jt1, Bool.false_eq_true, Classical.not_not, true_or, or_true, false_or, or_false, true_imp_iff, false_imp_iff, not_true_eq_false, not_false_eq_true, jif0, jif1, jifb, ltT, ltF, leT, leF, eqT, eqF, jlt, jle, jeq, jlt0, jle0, jeq0, jge0, jgt0, jinB, jnat, clt, cle, ceq, cgt, cge, lI_add, lI_sub, lI_mul, jadd, jsub, jmul, jneg, jtol, b010, b011, pv_2t, Int.toNat_natCast, Option.some.injEq, exists_eq_left', if_true, if_false, N, h4]
      refine vs_ok 3 ?_
      rw [show ((gRes 31).drop 17).take 3 = [.aload 0, .getfield 2032, .iconst 0] from rfl]
      simp (disch := omega) only [vs_iconst, vs_getfield, vs_aload0, vs_nil, gv_0, gv_1, gv_2, gv_3, pv_0, pv_1, va_rf_s, Nat.reduceDiv, Nat.reduceMod, Nat.reduceAdd, Nat.reduceMul, Int.reduceToNat, true_and, and_true, and_self, cP_eq, cP_ne, cP_lt, cP_ge, cP_gt, cP_le, eL_i, eL_l, eL_r, eL_n, Option.toList_none, Option.toList_some, List.nil_append, List.cons_append, kkI, llI, nnI, rrI, jjI, kkJ, llJ, nnJ, rrJ, iiJ, zIIs, zJJs, nEF, nET, and_false, false_and, jmin, jmax, catS_n, catS_i, catS_r, catS_l, Nat.reduceLeDiff, j1eq1, n21, jt0, jt1, Bool.false_eq_true, Classical.not_not, true_or, or_true, false_or, or_false, true_imp_iff, false_imp_iff, not_true_eq_false, not_false_eq_true, jif0, jif1, jifb, ltT, ltF, leT, leF, eqT, eqF, jlt, jle, jeq, jlt0, jle0, jeq0, jge0, jgt0, jinB, jnat, clt, cle, ceq, cgt, cge, lI_add, lI_sub, lI_mul, jadd, jsub, jmul, jneg, jtol, b010, b011, pv_2t, Int.toNat_natCast, Option.some.injEq, exists_eq_left', if_true, if_false, N]
      refine PW.ss (r := []) rfl (le_b rfl) rfl rfl (le_b rfl) (le_b rfl) ?_
      refine t_fillI N.2.2.2.2.2.1 N.2.2.2.2.2.2.1 N.2.2.2.2.2.2.2 (by omega) fun g f hI => ⟨rfl, ⟨f.1.2.2.1, rfl⟩, ?_⟩
      refine vs_ok 2 ?_
      rw [show ((gRes 31).drop 21).take 2 = [.iconst 0, .istore 3] from rfl]
      simp (disch := omega) only [vs_iconst, vs_istore3n, vs_istore3i, vs_istore3r, vs_istore3l, vs_nil, gv_0, gv_1, gv_2, gv_3, pv_0, pv_1, va_rf_s, Nat.reduceDiv, Nat.reduceMod, Nat.reduceAdd, Nat.reduceMul, Int.reduceToNat, true_and, and_true, and_self, cP_eq, cP_ne, cP_lt, cP_ge, cP_gt, cP_le, eL_i, eL_l, eL_r, eL_n, Option.toList_none, Option.toList_some, List.nil_append, List.cons_append, kkI, llI, nnI, rrI, jjI, kkJ, llJ, nnJ, rrJ, iiJ, zIIs, zJJs, nEF, nET, and_false, false_and, jmin, jmax, catS_n, catS_i, catS_r, catS_l, Nat.reduceLeDiff, j1eq1, n21, jt0, jt1, Bool.false_eq_true, Classical.not_not, true_or, or_true, false_or, or_false, true_imp_iff, false_imp_iff, not_true_eq_false, not_false_eq_true, jif0, jif1, jifb, ltT, ltF, leT, leF, eqT, eqF, jlt, jle, jeq, jlt0, jle0, jeq0, jge0, jgt0, jinB, jnat, clt, cle, ceq, cgt, cge, lI_add, lI_sub, lI_mul, jadd, jsub, jmul, jneg, jtol, b010, b011, pv_2t, Int.toNat_natCast, Option.some.injEq, exists_eq_left', if_true, if_false]
      exact l2 i 0 g (by omega) f (fun j hj => absurd hj (by omega)) fun q hq2 _ => hI q hq2
    | succ k ih =>
      intro i hk
      have b1 := gcF_b hT i (by omega)
      have b2 := hT i (by omega)
      refine vs_ok 4 ?_
      rw [show ((gRes 31).drop 4).take 4 = [.iload 3, .aload 0, .getfield 2040, .if_icmp .ge 17] from rfl]
      simp (disch := omega) only [vs_if_icmp, vs_getfield, vs_aload0, vs_iload3, vs_nil, gv_0, gv_1, gv_2, gv_3, pv_0, pv_1, va_rf_s, Nat.reduceDiv, Nat.reduceMod, Nat.reduceAdd, Nat.reduceMul, Int.reduceToNat, true_and, and_true, and_self, cP_eq, cP_ne, cP_lt, cP_ge, cP_gt, cP_le, eL_i, eL_l, eL_r, eL_n, Option.toList_none, Option.toList_some, List.nil_append, List.cons_append, kkI, llI, nnI, rrI, jjI, kkJ, llJ, nnJ, rrJ, iiJ, zIIs, zJJs, nEF, nET, and_false, false_and, jmin, jmax, catS_n, catS_i, catS_r, catS_l, Nat.reduceLeDiff, j1eq1, n21, jt0, jt1, Bool.false_eq_true, Classical.not_not, true_or, or_true, false_or, or_false, true_imp_iff, false_imp_iff, not_true_eq_false, not_false_eq_true, jif0, jif1, jifb, ltT, ltF, leT, leF, eqT, eqF, jlt, jle, jeq, jlt0, jle0, jeq0, jge0, jgt0, jinB, jnat, clt, cle, ceq, cgt, cge, lI_add, lI_sub, lI_mul, jadd, jsub, jmul, jneg, jtol, b010, b011, pv_2t, Int.toNat_natCast, Option.some.injEq, exists_eq_left', if_true, if_false, N, h4]
      refine vs_ok 5 ?_
      rw [show ((gRes 31).drop 8).take 5 = [.aload 0, .getfield 2022, .iload 3, .laload, .lload 1] from rfl]
      simp (disch := omega) only [vs_getfield, vs_laload, vs_aload0, vs_lload1, vs_iload3, vs_nil, gv_0, gv_1, gv_2, gv_3, pv_0, pv_1, va_rf_s, Nat.reduceDiv, Nat.reduceMod, Nat.reduceAdd, Nat.reduceMul, Int.reduceToNat, true_and, and_true, and_self, cP_eq, cP_ne, cP_lt, cP_ge, cP_gt, cP_le, eL_i, eL_l, eL_r, eL_n, Option.toList_none, Option.toList_some, List.nil_append, List.cons_append, kkI, llI, nnI, rrI, jjI, kkJ, llJ, nnJ, rrJ, iiJ, zIIs, zJJs, nEF, nET, and_false, false_and, jmin, jmax, catS_n, catS_i, catS_r, catS_l, Nat.reduceLeDiff, j1eq1, n21, jt0, jt1, Bool.false_eq_true, Classical.not_not, true_or, or_true, false_or, or_false, true_imp_iff, false_imp_iff, not_true_eq_false, not_false_eq_true, jif0, jif1, jifb, ltT, ltF, leT, leF, eqT, eqF, jlt, jle, jeq, jlt0, jle0, jeq0, jge0, jgt0, jinB, jnat, clt, cle, ceq, cgt, cge, lI_add, lI_sub, lI_mul, jadd, jsub, jmul, jneg, jtol, b010, b011, pv_2t, Int.toNat_natCast, Option.some.injEq, exists_eq_left', if_true, if_false, N, ht i (by omega)]
      refine PW.ss (r := []) rfl (le_b rfl) rfl rfl (le_b rfl) (le_b rfl) ?_
      refine t_commonPart ⟨b2.1, by omega⟩ ⟨b1.1, by omega⟩ ⟨rfl, ⟨rfl, rfl⟩, ?_⟩
      refine vs_ok 3 ?_
      rw [show ((gRes 31).drop 14).take 3 = [.lstore 1, .iinc 3 1, .goto 4] from rfl]
      simp (disch := omega) only [vs_goto, vs_lstore1n, vs_lstore1i, vs_lstore1r, vs_lstore1l, vs_iinc3n, vs_iinc3i, vs_iinc3r, vs_iinc3l, vs_nil, gv_0, gv_1, gv_2, gv_3, pv_0, pv_1, va_rf_s, Nat.reduceDiv, Nat.reduceMod, Nat.reduceAdd, Nat.reduceMul, Int.reduceToNat, true_and, and_true, and_self, cP_eq, cP_ne, cP_lt, cP_ge, cP_gt, cP_le, eL_i, eL_l, eL_r, eL_n, Option.toList_none, Option.toList_some, List.nil_append, List.cons_append, kkI, llI, nnI, rrI, jjI, kkJ, llJ, nnJ, rrJ, iiJ, zIIs, zJJs, nEF, nET, and_false, false_and, jmin, jmax, catS_n, catS_i, catS_r, catS_l, Nat.reduceLeDiff, j1eq1, n21, jt0, jt1, Bool.false_eq_true, Classical.not_not, true_or, or_true, false_or, or_false, true_imp_iff, false_imp_iff, not_true_eq_false, not_false_eq_true, jif0, jif1, jifb, ltT, ltF, leT, leF, eqT, eqF, jlt, jle, jeq, jlt0, jle0, jeq0, jge0, jgt0, jinB, jnat, clt, cle, ceq, cgt, cge, lI_add, lI_sub, lI_mul, jadd, jsub, jmul, jneg, jtol, b010, b011, pv_2t, Int.toNat_natCast, Option.some.injEq, exists_eq_left', if_true, if_false]
      exact ih (i + 1) (by omega)
  refine vs_ok 4 ?_
  rw [show ((gRes 31).drop 0).take 4 = [.jsr_w 0, .lstore 1, .iconst 0, .istore 3] from rfl]
  simp (disch := omega) only [vs_iconst, vs_jsr_w, vs_lstore1n, vs_lstore1i, vs_lstore1r, vs_lstore1l, vs_istore3n, vs_istore3i, vs_istore3r, vs_istore3l, vs_nil, gv_0, gv_1, gv_2, gv_3, pv_0, pv_1, va_rf_s, Nat.reduceDiv, Nat.reduceMod, Nat.reduceAdd, Nat.reduceMul, Int.reduceToNat, true_and, and_true, and_self, cP_eq, cP_ne, cP_lt, cP_ge, cP_gt, cP_le, eL_i, eL_l, eL_r, eL_n, Option.toList_none, Option.toList_some, List.nil_append, List.cons_append, kkI, llI, nnI, rrI, jjI, kkJ, llJ, nnJ, rrJ, iiJ, zIIs, zJJs, nEF, nET, and_false, false_and, jmin, jmax, catS_n, catS_i, catS_r, catS_l, Nat.reduceLeDiff, j1eq1, n21, jt0, jt1, Bool.false_eq_true, Classical.not_not, true_or, or_true, false_or, or_false, true_imp_iff, false_imp_iff, not_true_eq_false, not_false_eq_true, jif0, jif1, jifb, ltT, ltF, leT, leF, eqT, eqF, jlt, jle, jeq, jlt0, jle0, jeq0, jge0, jgt0, jinB, jnat, clt, cle, ceq, cgt, cge, lI_add, lI_sub, lI_mul, jadd, jsub, jmul, jneg, jtol, b010, b011, pv_2t, Int.toNat_natCast, Option.some.injEq, exists_eq_left', if_true, if_false]
  exact l1 n 0 (by omega)
/-- the signs as they stand in 49 places -/
def s4F (bt mem : Nat → Nat) (n q : Nat) : Int := if q / 7 < n ∧ q % 7 < n then sgF bt mem (q / 7) (q % 7) else 0
theorem s4F_b (bt mem : Nat → Nat) (n q : Nat) : -1 ≤ s4F bt mem n q ∧ s4F bt mem n q ≤ 1 := by
  unfold s4F sgF
  split
  · split
    · split <;> omega
    · split
      · split <;> omega
      · omega
  · omega
/-- hd are holders that hold shares T -/
def gdP (n : Nat) (S : Nat → Int) (hd : Nat) (T : Nat → Int) : Prop := pcN hd 12 % 2 = 1 ∧ wgP S hd T ∧ stP n S T
theorem wgP_b {S : Nat → Int} (hS : ∀ i, -1 ≤ S i ∧ S i ≤ 1) {hd : Nat} {T : Nat → Int} (hw : wgP S hd T) : ∀ i, i < 7 → 0 ≤ T i ∧ T i ≤ 900000 := fun i hi => by
  obtain ⟨⟨tu, h1, h2⟩, h3⟩ := hw
  have e := h2 i hi
  have b := raF_b hS hd i
  by_cases c : hd.testBit i = true
  · have p := h3 i hi c
    rw [if_pos c] at e
    rcases h1 with z | z <;> subst z <;> omega
  · rw [if_neg c] at e
    omega
/-- shares that do not count beyond place 6 -/
def cutT (T : Nat → Int) (i : Nat) : Int := if i < 7 then T i else 0
theorem gdP_cut {n : Nat} {S : Nat → Int} {hd : Nat} {T : Nat → Int} (hn : n ≤ 7) (hw : wgP S hd T) : wgP S hd (cutT T) ∧ (stP n S T ↔ stP n S (cutT T)) := by
  have e : ∀ i, i < 7 → cutT T i = T i := fun i hi => if_pos hi
  refine ⟨⟨?_, fun i hi hb => by rw [e i hi]; exact hw.2 i hi hb⟩, ?_⟩
  · obtain ⟨⟨tu, h1, h2⟩, -⟩ := hw
    exact ⟨tu, h1, fun i hi => by rw [e i hi]; exact h2 i hi⟩
  · have c : ∀ i k : Nat, k ≤ 7 → siN (fun j => S (7 * i + j) * T j) k = siN (fun j => S (7 * i + j) * cutT T j) k := fun i k => by
      induction k with
      | zero => intro _; rfl
      | succ k ih =>
        intro hk
        show siN _ k + S (7 * i + k) * T k = siN _ k + S (7 * i + k) * cutT T k
        rw [ih (by omega), e k (by omega)]
    exact ⟨fun z i hi => by rw [← c i n hn]; exact z i hi, fun z i hi => by rw [c i n hn]; exact z i hi⟩
theorem wgP_u {S : Nat → Int} {hd : Nat} {T T2 : Nat → Int} (h1 : wgP S hd T) (h2 : wgP S hd T2) : cutT T = cutT T2 := by
  funext i
  unfold cutT
  split
  · rename_i hi
    obtain ⟨⟨t1, a1, b1⟩, c1⟩ := h1
    obtain ⟨⟨t2, a2, b2⟩, c2⟩ := h2
    have e1 := b1 i hi
    have e2 := b2 i hi
    by_cases c : hd.testBit i = true
    · have p1 := c1 i hi c
      have p2 := c2 i hi c
      rw [if_pos c] at e1 e2
      rcases a1 with z | z <;> rcases a2 with w | w <;> subst z <;> subst w <;> omega
    · rw [if_neg c] at e1 e2
      omega
  · rfl
theorem mbL_inj {set i j v : Nat} : ∀ {k : Nat}, (mbL set k)[i]? = some v → (mbL set k)[j]? = some v → i = j
  | 0, h, _ => by simp [mbL] at h
  | k + 1, h, h' => by
    unfold mbL at h h'
    by_cases c : set.testBit k = true
    · rw [if_pos c] at h h'
      have aux : ∀ i, (mbL set k ++ [k])[i]? = some v → (i < (mbL set k).length ∧ (mbL set k)[i]? = some v ∧ v < k) ∨ (i = (mbL set k).length ∧ v = k) := fun i h => by
        by_cases y : i < (mbL set k).length
        · rw [List.getElem?_append_left y] at h
          exact Or.inl ⟨y, h, (mbL_mem h).1⟩
        · rw [List.getElem?_append_right (by omega)] at h
          have h1 : i - (mbL set k).length = 0 := by
            have := (List.getElem?_eq_some_iff.mp h).1
            simp at this
            omega
          rw [h1] at h
          have : k = v := by simpa using h
          exact Or.inr ⟨by omega, this.symm⟩
      rcases aux i h with ⟨a1, a2, a3⟩ | ⟨a1, a2⟩ <;> rcases aux j h' with ⟨b1, b2, b3⟩ | ⟨b1, b2⟩
      · exact mbL_inj a2 b2
      · omega
      · omega
      · omega
    · rw [if_neg c] at h h'
      exact mbL_inj h h'
theorem t_play {d : Nat} {h : Hp} {x y nm set : Nat} {bt : Nat → Nat} {Q : Nat → Option Value → Hp → Prop} (ho : objA h x 2 gaL) (hn : netC h y nm bt) (hd : y + 3 < x ∨ x + 4 < y) (hs : set < 2 ^ nm) (hp : 1 ≤ pcN set 12 ∧ pcN set 12 ≤ 7)
    (hqE : (∃ i j, i < j ∧ j < pcN set 12 ∧ evP bt (mbF set) i j) → ∀ h', fi (fun q => x ≤ q ∧ q ≤ x + 3) h h' → Q 0 (some (.int (iI (-1)))) h')
    (hqN : (∀ i j, i < j → j < pcN set 12 → ¬ evP bt (mbF set) i j) → (∀ hd T, 1 ≤ hd → hd < 2 ^ pcN set 12 → ¬ gdP (pcN set 12) (s4F bt (mbF set) (pcN set 12)) hd T) → ∀ h', fi (fun q => x ≤ q ∧ q ≤ x + 3) h h' → Q 0 (some (.int (iI (-1)))) h')
    (hqF : (∀ i j, i < j → j < pcN set 12 → ¬ evP bt (mbF set) i j) → ∀ hd T, 1 ≤ hd → hd < 2 ^ pcN set 12 → gdP (pcN set 12) (s4F bt (mbF set) (pcN set 12)) hd T → (∀ hd' T', 1 ≤ hd' → hd' < hd → ¬ gdP (pcN set 12) (s4F bt (mbF set) (pcN set 12)) hd' T') → ∀ h', fi (fun q => x ≤ q ∧ q ≤ x + 4) h h' → (∀ i, i < pcN set 12 → zI h' (x + 4) (mbF set i) = iI (T i / gcF T (pcN set 12))) → (∀ k, k < 12 → (∀ i, i < pcN set 12 → mbF set i ≠ k) → zI h' (x + 4) k = iI 0) → Q 0 (some (.int (iI (pcN hd 12)))) h') : PR (d + 9) m_Game_play [.ref x, .ref y, .int (iI set)] h Q := by
  have hnm := hn.2.1
  have p12 := pw_b hnm
  have mlt := fun i hi => mbF_lt (i := i) hs hi
  have minj : ∀ i j, i < pcN set 12 → j < pcN set 12 → mbF set i = mbF set j → i = j := fun i j hi hj e => by
    have li : i < (mbL set 12).length := by rw [mbL_len]; exact hi
    have lj : j < (mbL set 12).length := by rw [mbL_len]; exact hj
    unfold mbF at e
    rw [List.getElem?_eq_getElem li, List.getElem?_eq_getElem lj, Option.getD_some, Option.getD_some] at e
    exact mbL_inj (v := (mbL set 12)[i]) (List.getElem?_eq_getElem li) (by rw [List.getElem?_eq_getElem lj, e])
  generalize hgn : pcN set 12 = n at *
  show PW (d + 9) 25 0 [some (.ref x), some (.ref y), some (.int (iI set)), none] [] h Q
  have N := gaF ho
  refine vs_ok 2 ?_
  rw [show ((gRes 25).drop 0).take 2 = [.aload 0, .iload 2] from rfl]
  simp (disch := omega) only [vs_aload0, vs_iload2, vs_nil, gv_0, gv_1, gv_2, gv_3, pv_0, pv_1, va_rf_s, Nat.reduceDiv, Nat.reduceMod, Nat.reduceAdd, Nat.reduceMul, Int.reduceToNat, true_and, and_true, and_self, cP_eq, cP_ne, cP_lt, cP_ge, cP_gt, cP_le, eL_i, eL_l, eL_r, eL_n, Option.toList_none, Option.toList_some, List.nil_append, List.cons_append, kkI, llI, nnI, rrI, jjI, kkJ, llJ, nnJ, rrJ, iiJ, zIIs, zJJs, nEF, nET, and_false, false_and, jmin, jmax, catS_n, catS_i, catS_r, catS_l, Nat.reduceLeDiff, j1eq1, n21, jt0, jt1, Bool.false_eq_true, Classical.not_not, true_or, or_true, false_or, or_false, true_imp_iff, false_imp_iff, not_true_eq_false, not_false_eq_true, jif0, jif1, jifb, ltT, ltF, leT, leF, eqT, eqF, jlt, jle, jeq, jlt0, jle0, jeq0, jge0, jgt0, jinB, jnat, clt, cle, ceq, cgt, cge, lI_add, lI_sub, lI_mul, jadd, jsub, jmul, jneg, jtol, b010, b011, pv_2t, Int.toNat_natCast, Option.some.injEq, exists_eq_left', if_true, if_false]
  refine PW.iv rfl rfl rfl N.1.1 N.1.2 (le_b rfl) (le_b rfl) ?_
  refine t_gather ho (by omega) (by omega) fun g1 f1 h4 hm => ⟨rfl, ⟨f1.1.2.2.1, rfl⟩, ?_⟩
  rw [hgn] at h4 hm
  have o1 := ho.fi f1
  have N1 := gaF o1
  have n1 : netC g1 y nm bt := hn.fi f1 (by rw [f1.1.2.2.2.2.2.1 _ (by omega)]) (by omega)
  have f1' : fi (fun q => x ≤ q ∧ q ≤ x + 3) h g1 := f1.wk fun q z => by omega
  refine vs_ok 2 ?_
  rw [show ((gRes 25).drop 3).take 2 = [.aload 0, .aload 1] from rfl]
  simp (disch := omega) only [vs_aload0, vs_aload1, vs_nil, gv_0, gv_1, gv_2, gv_3, pv_0, pv_1, va_rf_s, Nat.reduceDiv, Nat.reduceMod, Nat.reduceAdd, Nat.reduceMul, Int.reduceToNat, true_and, and_true, and_self, cP_eq, cP_ne, cP_lt, cP_ge, cP_gt, cP_le, eL_i, eL_l, eL_r, eL_n, Option.toList_none, Option.toList_some, List.nil_append, List.cons_append, kkI, llI, nnI, rrI, jjI, kkJ, llJ, nnJ, rrJ, iiJ, zIIs, zJJs, nEF, nET, and_false, false_and, jmin, jmax, catS_n, catS_i, catS_r, catS_l, Nat.reduceLeDiff, j1eq1, n21, jt0, jt1, Bool.false_eq_true, Classical.not_not, true_or, or_true, false_or, or_false, true_imp_iff, false_imp_iff, not_true_eq_false, not_false_eq_true, jif0, jif1, jifb, ltT, ltF, leT, leF, eqT, eqF, jlt, jle, jeq, jlt0, jle0, jeq0, jge0, jgt0, jinB, jnat, clt, cle, ceq, cgt, cge, lI_add, lI_sub, lI_mul, jadd, jsub, jmul, jneg, jtol, b010, b011, pv_2t, Int.toNat_natCast, Option.some.injEq, exists_eq_left', if_true, if_false]
  refine PW.iv rfl rfl rfl N1.1.1 N1.1.2 (le_b rfl) (le_b rfl) ?_
  refine t_readSigns o1 n1 hd h4 hp.2 (fun i hi => ⟨(mlt i hi).1, hm i hi⟩) (fun hE g2 f2 hS hZ => ⟨rfl, ⟨f2.1.2.2.1, rfl⟩, ?_⟩) (fun hE g2 f2 => ⟨rfl, ⟨f2.1.2.2.1, rfl⟩, ?_⟩)
  · have f2' : fi (fun q => x ≤ q ∧ q ≤ x + 3) h g2 := f1'.tr (f2.wk fun q z => by omega)
    have hSg : ∀ q, q < 49 → zI g2 (x + 2) q = iI (s4F bt (mbF set) n q) := fun q hq2 => by
      unfold s4F
      have e : 7 * (q / 7) + q % 7 = q := by omega
      by_cases c : q / 7 < n ∧ q % 7 < n
      · rw [if_pos c, ← hS (q / 7) (q % 7) c.1 c.2, e]
      · rw [if_neg c, ← e, hZ (q / 7) (q % 7) (by omega) (by omega) c]
        rfl
    have Sb := s4F_b bt (mbF set) n
    generalize s4F bt (mbF set) n = S at *
    have g4 : zI g2 x 4 = iI n := by rw [f2.1.2.2.2.2.2.1 _ (by omega)]; exact h4
    have gm : ∀ i, i < n → zI g2 (x + 1) i = iI (mbF set i) := fun i hi => by rw [f2.1.2.2.2.2.2.1 _ (by omega)]; exact hm i hi
    have p0 : 1 ≤ 2 ^ n := Nat.two_pow_pos n
    have p7 : 2 ^ n ≤ 128 := Nat.pow_le_pow_right (n := 2) (by omega) hp.2
    refine vs_ok 1 ?_
    rw [show ((gRes 25).drop 6).take 1 = [.ifCond .ne 9] from rfl]
    simp (disch := omega) only [vs_ifCond, vs_nil, gv_0, gv_1, gv_2, gv_3, pv_0, pv_1, va_rf_s, Nat.reduceDiv, Nat.reduceMod, Nat.reduceAdd, Nat.reduceMul, Int.reduceToNat, true_and, and_true, and_self, cP_eq, cP_ne, cP_lt, cP_ge, cP_gt, cP_le, eL_i, eL_l, eL_r, eL_n, Option.toList_none, Option.toList_some, List.nil_append, List.cons_append, kkI, llI, nnI, rrI, jjI, kkJ, llJ, nnJ, rrJ, iiJ, zIIs, zJJs, nEF, nET, and_false, false_and, jmin, jmax, catS_n, catS_i, catS_r, catS_l, Nat.reduceLeDiff, j1eq1, n21, jt0, jt1, Bool.false_eq_true, Classical.not_not, true_or, or_true, false_or, or_false, true_imp_iff, false_imp_iff, not_true_eq_false, not_false_eq_true, jif0, jif1, jifb, ltT, ltF, leT, leF, eqT, eqF, jlt, jle, jeq, jlt0, jle0, jeq0, jge0, jgt0, jinB, jnat, clt, cle, ceq, cgt, cge, lI_add, lI_sub, lI_mul, jadd, jsub, jmul, jneg, jtol, b010, b011, pv_2t, Int.toNat_natCast, Option.some.injEq, exists_eq_left', if_true, if_false]
    refine vs_ok 2 ?_
    rw [show ((gRes 25).drop 9).take 2 = [.iconst 1, .istore 3] from rfl]
    simp (disch := omega) only [vs_iconst, vs_istore3n, vs_istore3i, vs_istore3r, vs_istore3l, vs_nil, gv_0, gv_1, gv_2, gv_3, pv_0, pv_1, va_rf_s, Nat.reduceDiv, Nat.reduceMod, Nat.reduceAdd, Nat.reduceMul, Int.reduceToNat, true_and, and_true, and_self, cP_eq, cP_ne, cP_lt, cP_ge, cP_gt, cP_le, eL_i, eL_l, eL_r, eL_n, Option.toList_none, Option.toList_some, List.nil_append, List.cons_append, kkI, llI, nnI, rrI, jjI, kkJ, llJ, nnJ, rrJ, iiJ, zIIs, zJJs, nEF, nET, and_false, false_and, jmin, jmax, catS_n, catS_i, catS_r, catS_l, Nat.reduceLeDiff, j1eq1, n21, jt0, jt1, Bool.false_eq_true, Classical.not_not, true_or, or_true, false_or, or_false, true_imp_iff, false_imp_iff, not_true_eq_false, not_false_eq_true, jif0, jif1, jifb, ltT, ltF, leT, leF, eqT, eqF, jlt, jle, jeq, jlt0, jle0, jeq0, jge0, jgt0, jinB, jnat, clt, cle, ceq, cgt, cge, lI_add, lI_sub, lI_mul, jadd, jsub, jmul, jneg, jtol, b010, b011, pv_2t, Int.toNat_natCast, Option.some.injEq, exists_eq_left', if_true, if_false]
    have lp : ∀ (k hd : Nat) (g : Hp), k + hd = 2 ^ n → 1 ≤ hd → fi (fun q => q = x + 3) g2 g → (∀ hd' T', 1 ≤ hd' → hd' < hd → ¬ gdP n S hd' T') → PW (d + 9) 25 11 [some (.ref x), some (.ref y), some (.int (iI set)), some (.int (iI hd))] [] g Q := by
      intro k
      induction k with
      | zero =>
        intro hd g hk h1 f hA
        have o3 := (o1.fi f2).fi f
        have N3 := gaF o3
        have gx : zI g x = zI g2 x := f.1.2.2.2.2.2.1 _ (by omega)
        refine vs_ok 6 ?_
        rw [show ((gRes 25).drop 11).take 6 = [.iload 3, .iconst 1, .aload 0, .getfield 2040, .ishl, .if_icmp .ge 37] from rfl]
        simp (disch := omega) only [vs_iconst, vs_if_icmp, vs_getfield, vs_aload0, vs_iload3, vs_nil, gv_0, gv_1, gv_2, gv_3, pv_0, pv_1, va_rf_s, vs_ishl, Nat.reduceDiv, Nat.reduceMod, Nat.reduceAdd, Nat.reduceMul, Int.reduceToNat, true_and, and_true, and_self, cP_eq, cP_ne, cP_lt, cP_ge, cP_gt, cP_le, eL_i, eL_l, eL_r, eL_n, Option.toList_none, Option.toList_some, List.nil_append, List.cons_append, kkI, llI, nnI, rrI, jjI, kkJ, llJ, nnJ, rrJ, iiJ, zIIs, zJJs, nEF, nET, and_false, false_and, jmin, jmax, catS_n, catS_i, catS_r, catS_l, Nat.reduceLeDiff, j1eq1, n21, jt0, jt1, Bool.false_eq_true, Classical.not_not, true_or, or_true, false_or, or_false, true_imp_iff, false_imp_iff, not_true_eq_false, not_false_eq_true, jif0, jif1, jifb, ltT, ltF, leT, leF, eqT, eqF, jlt, jle, jeq, jlt0, jle0, jeq0, jge0, jgt0, jinB, jnat, clt, cle, ceq, cgt, cge, lI_add, lI_sub, lI_mul, jadd, jsub, jmul, jneg, jtol, b010, b011, pv_2t, Int.toNat_natCast, Option.some.injEq, exists_eq_left', if_true, if_false, N3, gx, g4, jshl1]
        refine vs_ok 2 ?_
        rw [show ((gRes 25).drop 37).take 2 = [.iconst (-1), .ireturn] from rfl]
        simp (disch := omega) only [vs_iconst, vs_ireturn, vs_nil, gv_0, gv_1, gv_2, gv_3, pv_0, pv_1, va_rf_s, Nat.reduceDiv, Nat.reduceMod, Nat.reduceAdd, Nat.reduceMul, Int.reduceToNat, true_and, and_true, and_self, cP_eq, cP_ne, cP_lt, cP_ge, cP_gt, cP_le, eL_i, eL_l, eL_r, eL_n, Option.toList_none, Option.toList_some, List.nil_append, List.cons_append, kkI, llI, nnI, rrI, jjI, kkJ, llJ, nnJ, rrJ, iiJ, zIIs, zJJs, nEF, nET, and_false, false_and, jmin, jmax, catS_n, catS_i, catS_r, catS_l, Nat.reduceLeDiff, j1eq1, n21, jt0, jt1, Bool.false_eq_true, Classical.not_not, true_or, or_true, false_or, or_false, true_imp_iff, false_imp_iff, not_true_eq_false, not_false_eq_true, jif0, jif1, jifb, ltT, ltF, leT, leF, eqT, eqF, jlt, jle, jeq, jlt0, jle0, jeq0, jge0, jgt0, jinB, jnat, clt, cle, ceq, cgt, cge, lI_add, lI_sub, lI_mul, jadd, jsub, jmul, jneg, jtol, b010, b011, pv_2t, Int.toNat_natCast, Option.some.injEq, exists_eq_left', if_true, if_false, show gRc 25 = 1 from rfl]
        exact hqN hE (fun hd' T' a b => hA hd' T' a (by omega)) g (f2'.tr (f.wk fun q z => by omega))
      | succ k ih =>
        intro hd g hk h1 f hA
        have o3 := (o1.fi f2).fi f
        have N3 := gaF o3
        have r := f.1.2.2.2.2.2.1
        have gx : zI g x = zI g2 x := r _ (by omega)
        have pb := pcN_le hd 12
        have nx : ∀ g, fi (fun q => q = x + 3) g2 g → (∀ T, ¬ gdP n S hd T) → PW (d + 9) 25 35 [some (.ref x), some (.ref y), some (.int (iI set)), some (.int (iI hd))] [] g Q := fun g f hno => by
          refine vs_ok 2 ?_
          rw [show ((gRes 25).drop 35).take 2 = [.iinc 3 1, .goto 11] from rfl]
          simp (disch := omega) only [vs_goto, vs_iinc3n, vs_iinc3i, vs_iinc3r, vs_iinc3l, vs_nil, gv_0, gv_1, gv_2, gv_3, pv_0, pv_1, va_rf_s, Nat.reduceDiv, Nat.reduceMod, Nat.reduceAdd, Nat.reduceMul, Int.reduceToNat, true_and, and_true, and_self, cP_eq, cP_ne, cP_lt, cP_ge, cP_gt, cP_le, eL_i, eL_l, eL_r, eL_n, Option.toList_none, Option.toList_some, List.nil_append, List.cons_append, kkI, llI, nnI, rrI, jjI, kkJ, llJ, nnJ, rrJ, iiJ, zIIs, zJJs, nEF, nET, and_false, false_and, jmin, jmax, catS_n, catS_i, catS_r, catS_l, Nat.reduceLeDiff, j1eq1, n21, jt0, jt1, Bool.false_eq_true, Classical.not_not, true_or, or_true, false_or, or_false, true_imp_iff, false_imp_iff, not_true_eq_false, not_false_eq_true, jif0, jif1, jifb, ltT, ltF, leT, leF, eqT, eqF, jlt, jle, jeq, jlt0, jle0, jeq0, jge0, jgt0, jinB, jnat, clt, cle, ceq, cgt, cge, lI_add, lI_sub, lI_mul, jadd, jsub, jmul, jneg, jtol, b010, b011, pv_2t, Int.toNat_natCast, Option.some.injEq, exists_eq_left', if_true, if_false]
          refine ih (hd + 1) g (by omega) (by omega) f fun hd' T' a b => ?_
          by_cases z : hd' = hd
          · rw [z]; exact hno T'
          · exact hA hd' T' a (by omega)
        refine vs_ok 6 ?_
        rw [show ((gRes 25).drop 11).take 6 = [.iload 3, .iconst 1, .aload 0, .getfield 2040, .ishl, .if_icmp .ge 37] from rfl]
        simp (disch := omega) only [vs_iconst, vs_if_icmp, vs_getfield, vs_aload0, vs_iload3, vs_nil, gv_0, gv_1, gv_2, gv_3, pv_0, pv_1, va_rf_s, vs_ishl, Nat.reduceDiv, Nat.reduceMod, Nat.reduceAdd, Nat.reduceMul, Int.reduceToNat, true_and, and_true, and_self, cP_eq, cP_ne, cP_lt, cP_ge, cP_gt, cP_le, eL_i, eL_l, eL_r, eL_n, Option.toList_none, Option.toList_some, List.nil_append, List.cons_append, kkI, llI, nnI, rrI, jjI, kkJ, llJ, nnJ, rrJ, iiJ, zIIs, zJJs, nEF, nET, and_false, false_and, jmin, jmax, catS_n, catS_i, catS_r, catS_l, Nat.reduceLeDiff, j1eq1, n21, jt0, jt1, Bool.false_eq_true, Classical.not_not, true_or, or_true, false_or, or_false, true_imp_iff, false_imp_iff, not_true_eq_false, not_false_eq_true, jif0, jif1, jifb, ltT, ltF, leT, leF, eqT, eqF, jlt, jle, jeq, jlt0, jle0, jeq0, jge0, jgt0, jinB, jnat, clt, cle, ceq, cgt, cge, lI_add, lI_sub, lI_mul, jadd, jsub, jmul, jneg, jtol, b010, b011, pv_2t, Int.toNat_natCast, Option.some.injEq, exists_eq_left', if_true, if_false, N3, gx, g4, jshl1]
        refine vs_ok 1 ?_
        rw [show ((gRes 25).drop 17).take 1 = [.iload 3] from rfl]
        simp (disch := omega) only [vs_iload3, vs_nil, gv_0, gv_1, gv_2, gv_3, pv_0, pv_1, va_rf_s, Nat.reduceDiv, Nat.reduceMod, Nat.reduceAdd, Nat.reduceMul, Int.reduceToNat, true_and, and_true, and_self, cP_eq, cP_ne, cP_lt, cP_ge, cP_gt, cP_le, eL_i, eL_l, eL_r, eL_n, Option.toList_none, Option.toList_some, List.nil_append, List.cons_append, kkI, llI, nnI, rrI, jjI, kkJ, llJ, nnJ, rrJ, iiJ, zIIs, zJJs, nEF, nET, and_false, false_and, jmin, jmax, catS_n, catS_i, catS_r, catS_l, Nat.reduceLeDiff, j1eq1, n21, jt0, jt1, Bool.false_eq_true, Classical.not_not, true_or, or_true, false_or, or_false, true_imp_iff, false_imp_iff, not_true_eq_false, not_false_eq_true, jif0, jif1, jifb, ltT, ltF, leT, leF, eqT, eqF, jlt, jle, jeq, jlt0, jle0, jeq0, jge0, jgt0, jinB, jnat, clt, cle, ceq, cgt, cge, lI_add, lI_sub, lI_mul, jadd, jsub, jmul, jneg, jtol, b010, b011, pv_2t, Int.toNat_natCast, Option.some.injEq, exists_eq_left', if_true, if_false]
        refine PW.ss (r := []) rfl (le_b rfl) rfl rfl (le_b rfl) (le_b rfl) ?_
        refine t_bitCount (by omega) ⟨rfl, ⟨rfl, rfl⟩, ?_⟩
        by_cases c1 : pcN hd 12 % 2 = 1
        · refine vs_ok 4 ?_
          rw [show ((gRes 25).drop 19).take 4 = [.iconst 1, .iand, .iconst 1, .if_icmp .ne 35] from rfl]
          simp (disch := omega) only [vs_iconst, vs_if_icmp, vs_nil, gv_0, gv_1, gv_2, gv_3, pv_0, pv_1, va_rf_s, vs_iand, Nat.reduceDiv, Nat.reduceMod, Nat.reduceAdd, Nat.reduceMul, Int.reduceToNat, true_and, and_true, and_self, cP_eq, cP_ne, cP_lt, cP_ge, cP_gt, cP_le, eL_i, eL_l, eL_r, eL_n, Option.toList_none, Option.toList_some, List.nil_append, List.cons_append, kkI, llI, nnI, rrI, jjI, kkJ, llJ, nnJ, rrJ, iiJ, zIIs, zJJs, nEF, nET, and_false, false_and, jmin, jmax, catS_n, catS_i, catS_r, catS_l, Nat.reduceLeDiff, j1eq1, n21, jt0, jt1, Bool.false_eq_true, Classical.not_not, true_or, or_true, false_or, or_false, true_imp_iff, false_imp_iff, not_true_eq_false, not_false_eq_true, jif0, jif1, jifb, ltT, ltF, leT, leF, eqT, eqF, jlt, jle, jeq, jlt0, jle0, jeq0, jge0, jgt0, jinB, jnat, clt, cle, ceq, cgt, cge, lI_add, lI_sub, lI_mul, jadd, jsub, jmul, jneg, jtol, b010, b011, pv_2t, Int.toNat_natCast, Option.some.injEq, exists_eq_left', if_true, if_false, jand1, c1]
          refine vs_ok 2 ?_
          rw [show ((gRes 25).drop 23).take 2 = [.aload 0, .iload 3] from rfl]
          simp (disch := omega) only [vs_aload0, vs_iload3, vs_nil, gv_0, gv_1, gv_2, gv_3, pv_0, pv_1, va_rf_s, Nat.reduceDiv, Nat.reduceMod, Nat.reduceAdd, Nat.reduceMul, Int.reduceToNat, true_and, and_true, and_self, cP_eq, cP_ne, cP_lt, cP_ge, cP_gt, cP_le, eL_i, eL_l, eL_r, eL_n, Option.toList_none, Option.toList_some, List.nil_append, List.cons_append, kkI, llI, nnI, rrI, jjI, kkJ, llJ, nnJ, rrJ, iiJ, zIIs, zJJs, nEF, nET, and_false, false_and, jmin, jmax, catS_n, catS_i, catS_r, catS_l, Nat.reduceLeDiff, j1eq1, n21, jt0, jt1, Bool.false_eq_true, Classical.not_not, true_or, or_true, false_or, or_false, true_imp_iff, false_imp_iff, not_true_eq_false, not_false_eq_true, jif0, jif1, jifb, ltT, ltF, leT, leF, eqT, eqF, jlt, jle, jeq, jlt0, jle0, jeq0, jge0, jgt0, jinB, jnat, clt, cle, ceq, cgt, cge, lI_add, lI_sub, lI_mul, jadd, jsub, jmul, jneg, jtol, b010, b011, pv_2t, Int.toNat_natCast, Option.some.injEq, exists_eq_left', if_true, if_false]
          refine PW.iv rfl rfl rfl N3.1.1 N3.1.2 (le_b rfl) (le_b rfl) ?_
          refine t_weigh o3 Sb (fun q hq2 => by rw [r _ (by omega)]; exact hSg q hq2) ⟨h1, by omega⟩ (fun T hw g5 f5 hT => ⟨rfl, ⟨f5.1.2.2.1, rfl⟩, ?_⟩) (fun hw g5 f5 => ⟨rfl, ⟨f5.1.2.2.1, rfl⟩, ?_⟩)
          · obtain ⟨hwc, hst⟩ := gdP_cut hp.2 hw
            have tb := wgP_b Sb hw
            have tbc : ∀ i, -900000 ≤ cutT T i ∧ cutT T i ≤ 900000 := fun i => by
              unfold cutT
              split
              · rename_i z
                have := tb i z
                omega
              · omega
            have tc : ∀ i, i < 7 → cutT T i = T i := fun i hi => if_pos hi
            have o5 := o3.fi f5
            have N5 := gaF o5
            have r5 := f5.1.2.2.2.2.2.1
            have x5 : zI g5 x 4 = iI n := by rw [r5 _ (by omega), gx]; exact g4
            refine vs_ok 1 ?_
            rw [show ((gRes 25).drop 26).take 1 = [.ifCond .eq 35] from rfl]
            simp (disch := omega) only [vs_ifCond, vs_nil, gv_0, gv_1, gv_2, gv_3, pv_0, pv_1, va_rf_s, Nat.reduceDiv, Nat.reduceMod, Nat.reduceAdd, Nat.reduceMul, Int.reduceToNat, true_and, and_true, and_self, cP_eq, cP_ne, cP_lt, cP_ge, cP_gt, cP_le, eL_i, eL_l, eL_r, eL_n, Option.toList_none, Option.toList_some, List.nil_append, List.cons_append, kkI, llI, nnI, rrI, jjI, kkJ, llJ, nnJ, rrJ, iiJ, zIIs, zJJs, nEF, nET, and_false, false_and, jmin, jmax, catS_n, catS_i, catS_r, catS_l, Nat.reduceLeDiff, j1eq1, n21, jt0, jt1, Bool.false_eq_true, Classical.not_not, true_or, or_true, false_or, or_false, true_imp_iff, false_imp_iff, not_true_eq_false, not_false_eq_true, jif0, jif1, jifb, ltT, ltF, leT, leF, eqT, eqF, jlt, jle, jeq, jlt0, jle0, jeq0, jge0, jgt0, jinB, jnat, clt, cle, ceq, cgt, cge, lI_add, lI_sub, lI_mul, jadd, jsub, jmul, jneg, jtol, b010, b011, pv_2t, Int.toNat_natCast, Option.some.injEq, exists_eq_left', if_true, if_false]
            refine vs_ok 1 ?_
            rw [show ((gRes 25).drop 27).take 1 = [.aload 0] from rfl]
            simp (disch := omega) only [vs_aload0, vs_nil, gv_0, gv_1, gv_2, gv_3, pv_0, pv_1, va_rf_s, Nat.reduceDiv, Nat.reduceMod, Nat.reduceAdd, Nat.reduceMul, Int.reduceToNat, true_and, and_true, and_self, cP_eq, cP_ne, cP_lt, cP_ge, cP_gt, cP_le, eL_i, eL_l, eL_r, eL_n, Option.toList_none, Option.toList_some, List.nil_append, List.cons_append, kkI, llI, nnI, rrI, jjI, kkJ, llJ, nnJ, rrJ, iiJ, zIIs, zJJs, nEF, nET, and_false, false_and, jmin, jmax, catS_n, catS_i, catS_r, catS_l, Nat.reduceLeDiff, j1eq1, n21, jt0, jt1, Bool.false_eq_true, Classical.not_not, true_or, or_true, false_or, or_false, true_imp_iff, false_imp_iff, not_true_eq_false, not_false_eq_true, jif0, jif1, jifb, ltT, ltF, leT, leF, eqT, eqF, jlt, jle, jeq, jlt0, jle0, jeq0, jge0, jgt0, jinB, jnat, clt, cle, ceq, cgt, cge, lI_add, lI_sub, lI_mul, jadd, jsub, jmul, jneg, jtol, b010, b011, pv_2t, Int.toNat_natCast, Option.some.injEq, exists_eq_left', if_true, if_false]
            refine PW.iv rfl rfl rfl N5.1.1 N5.1.2 (le_b rfl) (le_b rfl) ?_
            refine t_stands (T := cutT T) o5 x5 hp.2 Sb tbc (fun q hq2 => by rw [r5 _ (by omega), r _ (by omega)]; exact hSg q hq2) (fun i hi => by rw [hT i hi, tc i hi]) (fun z => ⟨rfl, ⟨rfl, rfl⟩, ?_⟩) (fun z => ⟨rfl, ⟨rfl, rfl⟩, ?_⟩)
            · -- a holder's bit lies below n
              have hj : ∃ j, j < n ∧ 0 < T j := by
                have hb : ∃ j, j < n ∧ hd.testBit j = true := by
                  apply Classical.byContradiction
                  intro hno
                  have : hd = 0 := by
                    apply Nat.eq_of_testBit_eq
                    intro j
                    rw [Nat.zero_testBit]
                    by_cases c : j < n
                    · exact Bool.eq_false_iff.mpr fun z => hno ⟨j, c, z⟩
                    · exact Nat.testBit_lt_two_pow (Nat.lt_of_lt_of_le (show hd < 2 ^ n by omega) (Nat.pow_le_pow_right (by omega) (by omega)))
                  omega
                obtain ⟨j, h5, h6⟩ := hb
                exact ⟨j, h5, hw.2 j (by omega) h6⟩
              refine vs_ok 1 ?_
              rw [show ((gRes 25).drop 29).take 1 = [.ifCond .eq 35] from rfl]
              simp (disch := omega) only [vs_ifCond, vs_nil, gv_0, gv_1, gv_2, gv_3, pv_0, pv_1, va_rf_s, Nat.reduceDiv, Nat.reduceMod, Nat.reduceAdd, Nat.reduceMul, Int.reduceToNat, true_and, and_true, and_self, cP_eq, cP_ne, cP_lt, cP_ge, cP_gt, cP_le, eL_i, eL_l, eL_r, eL_n, Option.toList_none, Option.toList_some, List.nil_append, List.cons_append, kkI, llI, nnI, rrI, jjI, kkJ, llJ, nnJ, rrJ, iiJ, zIIs, zJJs, nEF, nET, and_false, false_and, jmin, jmax, catS_n, catS_i, catS_r, catS_l, Nat.reduceLeDiff, j1eq1, n21, jt0, jt1, Bool.false_eq_true, Classical.not_not, true_or, or_true, false_or, or_false, true_imp_iff, false_imp_iff, not_true_eq_false, not_false_eq_true, jif0, jif1, jifb, ltT, ltF, leT, leF, eqT, eqF, jlt, jle, jeq, jlt0, jle0, jeq0, jge0, jgt0, jinB, jnat, clt, cle, ceq, cgt, cge, lI_add, lI_sub, lI_mul, jadd, jsub, jmul, jneg, jtol, b010, b011, pv_2t, Int.toNat_natCast, Option.some.injEq, exists_eq_left', if_true, if_false]
              refine vs_ok 1 ?_
              rw [show ((gRes 25).drop 30).take 1 = [.aload 0] from rfl]
              simp (disch := omega) only [vs_aload0, vs_nil, gv_0, gv_1, gv_2, gv_3, pv_0, pv_1, va_rf_s, Nat.reduceDiv, Nat.reduceMod, Nat.reduceAdd, Nat.reduceMul, Int.reduceToNat, true_and, and_true, and_self, cP_eq, cP_ne, cP_lt, cP_ge, cP_gt, cP_le, eL_i, eL_l, eL_r, eL_n, Option.toList_none, Option.toList_some, List.nil_append, List.cons_append, kkI, llI, nnI, rrI, jjI, kkJ, llJ, nnJ, rrJ, iiJ, zIIs, zJJs, nEF, nET, and_false, false_and, jmin, jmax, catS_n, catS_i, catS_r, catS_l, Nat.reduceLeDiff, j1eq1, n21, jt0, jt1, Bool.false_eq_true, Classical.not_not, true_or, or_true, false_or, or_false, true_imp_iff, false_imp_iff, not_true_eq_false, not_false_eq_true, jif0, jif1, jifb, ltT, ltF, leT, leF, eqT, eqF, jlt, jle, jeq, jlt0, jle0, jeq0, jge0, jgt0, jinB, jnat, clt, cle, ceq, cgt, cge, lI_add, lI_sub, lI_mul, jadd, jsub, jmul, jneg, jtol, b010, b011, pv_2t, Int.toNat_natCast, Option.some.injEq, exists_eq_left', if_true, if_false]
              refine PW.iv rfl rfl rfl N5.1.1 N5.1.2 (le_b rfl) (le_b rfl) ?_
              refine t_Game_keep (mem := mbF set) o5 x5 hp.2 (fun i hi => ⟨(mlt i hi).2, by rw [r5 _ (by omega), r _ (by omega)]; exact gm i hi⟩) tb hj hT minj fun g6 f6 s1 s2 => ⟨rfl, ⟨f6.1.2.2.1, rfl⟩, ?_⟩
              refine vs_ok 1 ?_
              rw [show ((gRes 25).drop 32).take 1 = [.iload 3] from rfl]
              simp (disch := omega) only [vs_iload3, vs_nil, gv_0, gv_1, gv_2, gv_3, pv_0, pv_1, va_rf_s, Nat.reduceDiv, Nat.reduceMod, Nat.reduceAdd, Nat.reduceMul, Int.reduceToNat, true_and, and_true, and_self, cP_eq, cP_ne, cP_lt, cP_ge, cP_gt, cP_le, eL_i, eL_l, eL_r, eL_n, Option.toList_none, Option.toList_some, List.nil_append, List.cons_append, kkI, llI, nnI, rrI, jjI, kkJ, llJ, nnJ, rrJ, iiJ, zIIs, zJJs, nEF, nET, and_false, false_and, jmin, jmax, catS_n, catS_i, catS_r, catS_l, Nat.reduceLeDiff, j1eq1, n21, jt0, jt1, Bool.false_eq_true, Classical.not_not, true_or, or_true, false_or, or_false, true_imp_iff, false_imp_iff, not_true_eq_false, not_false_eq_true, jif0, jif1, jifb, ltT, ltF, leT, leF, eqT, eqF, jlt, jle, jeq, jlt0, jle0, jeq0, jge0, jgt0, jinB, jnat, clt, cle, ceq, cgt, cge, lI_add, lI_sub, lI_mul, jadd, jsub, jmul, jneg, jtol, b010, b011, pv_2t, Int.toNat_natCast, Option.some.injEq, exists_eq_left', if_true, if_false]
              refine PW.ss (r := []) rfl (le_b rfl) rfl rfl (le_b rfl) (le_b rfl) ?_
              refine t_bitCount (by omega) ⟨rfl, ⟨rfl, rfl⟩, ?_⟩
              refine vs_ok 1 ?_
              rw [show ((gRes 25).drop 34).take 1 = [.ireturn] from rfl]
              simp (disch := omega) only [vs_ireturn, vs_nil, gv_0, gv_1, gv_2, gv_3, pv_0, pv_1, va_rf_s, Nat.reduceDiv, Nat.reduceMod, Nat.reduceAdd, Nat.reduceMul, Int.reduceToNat, true_and, and_true, and_self, cP_eq, cP_ne, cP_lt, cP_ge, cP_gt, cP_le, eL_i, eL_l, eL_r, eL_n, Option.toList_none, Option.toList_some, List.nil_append, List.cons_append, kkI, llI, nnI, rrI, jjI, kkJ, llJ, nnJ, rrJ, iiJ, zIIs, zJJs, nEF, nET, and_false, false_and, jmin, jmax, catS_n, catS_i, catS_r, catS_l, Nat.reduceLeDiff, j1eq1, n21, jt0, jt1, Bool.false_eq_true, Classical.not_not, true_or, or_true, false_or, or_false, true_imp_iff, false_imp_iff, not_true_eq_false, not_false_eq_true, jif0, jif1, jifb, ltT, ltF, leT, leF, eqT, eqF, jlt, jle, jeq, jlt0, jle0, jeq0, jge0, jgt0, jinB, jnat, clt, cle, ceq, cgt, cge, lI_add, lI_sub, lI_mul, jadd, jsub, jmul, jneg, jtol, b010, b011, pv_2t, Int.toNat_natCast, Option.some.injEq, exists_eq_left', if_true, if_false, show gRc 25 = 1 from rfl]
              exact hqF hE hd T h1 (by omega) ⟨c1, hw, hst.mpr z⟩ hA g6 ((f2'.wk fun q z => by omega).tr ((f.wk fun q z => by omega).tr ((f5.wk fun q z => by omega).tr (f6.wk fun q z => by omega)))) s1 s2
            · refine vs_ok 1 ?_
              rw [show ((gRes 25).drop 29).take 1 = [.ifCond .eq 35] from rfl]
              simp (disch := omega) only [vs_ifCond, vs_nil, gv_0, gv_1, gv_2, gv_3, pv_0, pv_1, va_rf_s, Nat.reduceDiv, Nat.reduceMod, Nat.reduceAdd, Nat.reduceMul, Int.reduceToNat, true_and, and_true, and_self, cP_eq, cP_ne, cP_lt, cP_ge, cP_gt, cP_le, eL_i, eL_l, eL_r, eL_n, Option.toList_none, Option.toList_some, List.nil_append, List.cons_append, kkI, llI, nnI, rrI, jjI, kkJ, llJ, nnJ, rrJ, iiJ, zIIs, zJJs, nEF, nET, and_false, false_and, jmin, jmax, catS_n, catS_i, catS_r, catS_l, Nat.reduceLeDiff, j1eq1, n21, jt0, jt1, Bool.false_eq_true, Classical.not_not, true_or, or_true, false_or, or_false, true_imp_iff, false_imp_iff, not_true_eq_false, not_false_eq_true, jif0, jif1, jifb, ltT, ltF, leT, leF, eqT, eqF, jlt, jle, jeq, jlt0, jle0, jeq0, jge0, jgt0, jinB, jnat, clt, cle, ceq, cgt, cge, lI_add, lI_sub, lI_mul, jadd, jsub, jmul, jneg, jtol, b010, b011, pv_2t, Int.toNat_natCast, Option.some.injEq, exists_eq_left', if_true, if_false]
              refine nx g5 (f.tr f5) fun T2 h2 => z ?_
              rw [wgP_u hw h2.2.1]
              exact (gdP_cut hp.2 h2.2.1).2.mp h2.2.2
          · refine vs_ok 1 ?_
            rw [show ((gRes 25).drop 26).take 1 = [.ifCond .eq 35] from rfl]
            simp (disch := omega) only [vs_ifCond, vs_nil, gv_0, gv_1, gv_2, gv_3, pv_0, pv_1, va_rf_s, Nat.reduceDiv, Nat.reduceMod, Nat.reduceAdd, Nat.reduceMul, Int.reduceToNat, true_and, and_true, and_self, cP_eq, cP_ne, cP_lt, cP_ge, cP_gt, cP_le, eL_i, eL_l, eL_r, eL_n, Option.toList_none, Option.toList_some, List.nil_append, List.cons_append, kkI, llI, nnI, rrI, jjI, kkJ, llJ, nnJ, rrJ, iiJ, zIIs, zJJs, nEF, nET, and_false, false_and, jmin, jmax, catS_n, catS_i, catS_r, catS_l, Nat.reduceLeDiff, j1eq1, n21, jt0, jt1, Bool.false_eq_true, Classical.not_not, true_or, or_true, false_or, or_false, true_imp_iff, false_imp_iff, not_true_eq_false, not_false_eq_true, jif0, jif1, jifb, ltT, ltF, leT, leF, eqT, eqF, jlt, jle, jeq, jlt0, jle0, jeq0, jge0, jgt0, jinB, jnat, clt, cle, ceq, cgt, cge, lI_add, lI_sub, lI_mul, jadd, jsub, jmul, jneg, jtol, b010, b011, pv_2t, Int.toNat_natCast, Option.some.injEq, exists_eq_left', if_true, if_false]
            exact nx g5 (f.tr f5) fun T2 h2 => hw T2 h2.2.1
        · refine vs_ok 4 ?_
          rw [show ((gRes 25).drop 19).take 4 = [.iconst 1, .iand, .iconst 1, .if_icmp .ne 35] from rfl]
          simp (disch := omega) only [vs_iconst, vs_if_icmp, vs_nil, gv_0, gv_1, gv_2, gv_3, pv_0, pv_1, va_rf_s, vs_iand, Nat.reduceDiv, Nat.reduceMod, Nat.reduceAdd, Nat.reduceMul, Int.reduceToNat, true_and, and_true, and_self, cP_eq, cP_ne, cP_lt, cP_ge, cP_gt, cP_le, eL_i, eL_l, eL_r, eL_n, Option.toList_none, Option.toList_some, List.nil_append, List.cons_append, kkI, llI, nnI, rrI, jjI, kkJ, llJ, nnJ, rrJ, iiJ, zIIs, zJJs, nEF, nET, and_false, false_and, jmin, jmax, catS_n, catS_i, catS_r, catS_l, Nat.reduceLeDiff, j1eq1, n21, jt0, jt1, Bool.false_eq_true, Classical.not_not, true_or, or_true, false_or, or_false, true_imp_iff, false_imp_iff, not_true_eq_false, not_false_eq_true, jif0, jif1, jifb, ltT, ltF, leT, leF, eqT, eqF, jlt, jle, jeq, jlt0, jle0, jeq0, jge0, jgt0, jinB, jnat, clt, cle, ceq, cgt, cge, lI_add, lI_sub, lI_mul, jadd, jsub, jmul, jneg, jtol, b010, b011, pv_2t, Int.toNat_natCast, Option.some.injEq, exists_eq_left', if_true, if_false, jand1]
          exact nx g f fun T h2 => c1 h2.1
    exact lp (2 ^ n - 1) 1 g2 (by omega) (by omega) fi.rf fun hd' T' a b => by omega
  · refine vs_ok 1 ?_
    rw [show ((gRes 25).drop 6).take 1 = [.ifCond .ne 9] from rfl]
    simp (disch := omega) only [vs_ifCond, vs_nil, gv_0, gv_1, gv_2, gv_3, pv_0, pv_1, va_rf_s, Nat.reduceDiv, Nat.reduceMod, Nat.reduceAdd, Nat.reduceMul, Int.reduceToNat, true_and, and_true, and_self, cP_eq, cP_ne, cP_lt, cP_ge, cP_gt, cP_le, eL_i, eL_l, eL_r, eL_n, Option.toList_none, Option.toList_some, List.nil_append, List.cons_append, kkI, llI, nnI, rrI, jjI, kkJ, llJ, nnJ, rrJ, iiJ, zIIs, zJJs, nEF, nET, and_false, false_and, jmin, jmax, catS_n, catS_i, catS_r, catS_l, Nat.reduceLeDiff, j1eq1, n21, jt0, jt1, Bool.false_eq_true, Classical.not_not, true_or, or_true, false_or, or_false, true_imp_iff, false_imp_iff, not_true_eq_false, not_false_eq_true, jif0, jif1, jifb, ltT, ltF, leT, leF, eqT, eqF, jlt, jle, jeq, jlt0, jle0, jeq0, jge0, jgt0, jinB, jnat, clt, cle, ceq, cgt, cge, lI_add, lI_sub, lI_mul, jadd, jsub, jmul, jneg, jtol, b010, b011, pv_2t, Int.toNat_natCast, Option.some.injEq, exists_eq_left', if_true, if_false]
    refine vs_ok 2 ?_
    rw [show ((gRes 25).drop 7).take 2 = [.iconst (-1), .ireturn] from rfl]
    simp (disch := omega) only [vs_iconst, vs_ireturn, vs_nil, gv_0, gv_1, gv_2, gv_3, pv_0, pv_1, va_rf_s, Nat.reduceDiv, Nat.reduceMod, Nat.reduceAdd, Nat.reduceMul, Int.reduceToNat, true_and, and_true, and_self, cP_eq, cP_ne, cP_lt, cP_ge, cP_gt, cP_le, eL_i, eL_l, eL_r, eL_n, Option.toList_none, Option.toList_some, List.nil_append, List.cons_append, kkI, llI, nnI, rrI, jjI, kkJ, llJ, nnJ, rrJ, iiJ, zIIs, zJJs, nEF, nET, and_false, false_and, jmin, jmax, catS_n, catS_i, catS_r, catS_l, Nat.reduceLeDiff, j1eq1, n21, jt0, jt1, Bool.false_eq_true, Classical.not_not, true_or, or_true, false_or, or_false, true_imp_iff, false_imp_iff, not_true_eq_false, not_false_eq_true, jif0, jif1, jifb, ltT, ltF, leT, leF, eqT, eqF, jlt, jle, jeq, jlt0, jle0, jeq0, jge0, jgt0, jinB, jnat, clt, cle, ceq, cgt, cge, lI_add, lI_sub, lI_mul, jadd, jsub, jmul, jneg, jtol, b010, b011, pv_2t, Int.toNat_natCast, Option.some.injEq, exists_eq_left', if_true, if_false, show gRc 25 = 1 from rfl]
    exact hqE hE g2 (f1'.tr (f2.wk fun q z => by omega))
