/-! Arrays.fill, Long.compare, Integer.bitCount (of numbers below 4096) -/
theorem t_fill {d : Nat} {h : Hp} {a n : Nat} {v : Int32} {Q : Nat → Option Value → Hp → Prop} (h1 : zK h a = 14) (h2 : a < zN h) (h3 : zL h a = n) (hn : n ≤ 1000000)
    (hq : ∀ h', fr (fun q => q = a) h h' → (∀ i, zI h' a i = if i < n then v else zI h a i) → Q 0 none h') : PR d m_Arrays_fill [.ref a, .int v] h Q := by
  show PW d 275 0 [some (.ref a), some (.int v), none, none] [] h Q
  refine vs_ok 5 ?_
  rw [show ((gRes 275).drop 0).take 5 = [.iconst 0, .istore 2, .aload 0, .arraylength, .istore 3] from rfl]
  simp only [vs_iconst, vs_arraylength, vs_aload0, vs_istore2n, vs_istore2i, vs_istore2r, vs_istore2l, vs_istore3n, vs_istore3i, vs_istore3r, vs_istore3l, vs_nil, gv_0, gv_1, gv_2, gv_3, pv_0, pv_1, va_rf_s, Nat.reduceDiv, Nat.reduceMod, Nat.reduceAdd, Nat.reduceMul, Int.reduceToNat, true_and, and_true, and_self, cP_eq, cP_ne, cP_lt, cP_ge, cP_gt, cP_le, eL_i, eL_l, eL_r, eL_n, Option.toList_none, Option.toList_some, List.nil_append, List.cons_append, h1, h2, h3, or_true, true_or]
  have loop : ∀ (k i : Nat) (g : Hp), k + i = n → fr (fun q => q = a) h g → (∀ j, zI g a j = if j < i then v else zI h a j) → PW d 275 5 [some (.ref a), some (.int v), some (.int (iI i)), some (.int (Int32.ofNat n))] [] g Q := by
    intro k
    induction k with
    | zero =>
      intro i g hk hf hw
      refine vs_ok 3 ?_
      rw [show ((gRes 275).drop 5).take 3 = [.iload 2, .iload 3, .if_icmp .ge 14] from rfl]
      simp only [vs_if_icmp, vs_iload2, vs_iload3, vs_nil, gv_0, gv_1, gv_2, gv_3, pv_0, pv_1, va_rf_s, Nat.reduceDiv, Nat.reduceMod, Nat.reduceAdd, Nat.reduceMul, Int.reduceToNat, true_and, and_true, and_self, cP_eq, cP_ne, cP_lt, cP_ge, cP_gt, cP_le, eL_i, eL_l, eL_r, eL_n, Option.toList_none, Option.toList_some, List.nil_append, List.cons_append]
      rw [show Int32.ofNat n = iI n from nI_iI n, iI_le (by constructor <;> omega) (by constructor <;> omega)]
      refine ⟨fun _ => ?_, fun c => absurd (show (n : Int) ≤ i by omega) c⟩
      refine vs_ok 1 ?_
      rw [show ((gRes 275).drop 14).take 1 = [.return_] from rfl]
      simp only [vs_return_, vs_nil, gv_0, gv_1, gv_2, gv_3, pv_0, pv_1, va_rf_s, Nat.reduceDiv, Nat.reduceMod, Nat.reduceAdd, Nat.reduceMul, Int.reduceToNat, true_and, and_true, and_self, cP_eq, cP_ne, cP_lt, cP_ge, cP_gt, cP_le, eL_i, eL_l, eL_r, eL_n, Option.toList_none, Option.toList_some, List.nil_append, List.cons_append]
      refine ⟨by decide, hq g hf fun j => ?_⟩
      rw [hw j, show i = n by omega]
    | succ k ih =>
      intro i g hk hf hw
      have k1 : zK g a = 14 := by rw [hf.1]; exact h1
      have k2 : a < zN g := by rw [hf.2.2.1]; exact h2
      have k3 : zL g a = n := by rw [hf.2.1]; exact h3
      refine vs_ok 3 ?_
      rw [show ((gRes 275).drop 5).take 3 = [.iload 2, .iload 3, .if_icmp .ge 14] from rfl]
      simp only [vs_if_icmp, vs_iload2, vs_iload3, vs_nil, gv_0, gv_1, gv_2, gv_3, pv_0, pv_1, va_rf_s, Nat.reduceDiv, Nat.reduceMod, Nat.reduceAdd, Nat.reduceMul, Int.reduceToNat, true_and, and_true, and_self, cP_eq, cP_ne, cP_lt, cP_ge, cP_gt, cP_le, eL_i, eL_l, eL_r, eL_n, Option.toList_none, Option.toList_some, List.nil_append, List.cons_append]
      rw [show Int32.ofNat n = iI n from nI_iI n, iI_le (by constructor <;> omega) (by constructor <;> omega)]
      refine ⟨fun c => absurd c (by omega), fun _ => ?_⟩
      refine vs_ok 6 ?_
      rw [show ((gRes 275).drop 8).take 6 = [.aload 0, .iload 2, .iload 1, .iastore, .iinc 2 1, .goto 5] from rfl]
      simp only [vs_goto, vs_iastore, vs_aload0, vs_iload1, vs_iload2, vs_iinc2n, vs_iinc2i, vs_iinc2r, vs_iinc2l, vs_nil, gv_0, gv_1, gv_2, gv_3, pv_0, pv_1, va_rf_s, Nat.reduceDiv, Nat.reduceMod, Nat.reduceAdd, Nat.reduceMul, Int.reduceToNat, true_and, and_true, and_self, cP_eq, cP_ne, cP_lt, cP_ge, cP_gt, cP_le, eL_i, eL_l, eL_r, eL_n, Option.toList_none, Option.toList_some, List.nil_append, List.cons_append, k1, k2, k3, iI_add]
      refine ⟨(inB_iI (by constructor <;> omega)).mpr ⟨by omega, by omega⟩, ?_⟩
      rw [iI_nat (by constructor <;> omega) (by omega), show ((i : Int)).toNat = i by omega, ← nI_iI n]
      refine ih (i + 1) _ (by omega) (hf.tr (fr_I rfl)) fun j => ?_
      rw [zI_sI]
      by_cases c : j = i
      · rw [if_pos ⟨rfl, c⟩, if_pos (by omega)]
      · rw [if_neg (fun z => c z.2), hw j]
        by_cases c2 : j < i
        · rw [if_pos c2, if_pos (by omega)]
        · rw [if_neg c2, if_neg (by omega)]
  exact loop n 0 h (by omega) fr.rf fun j => by rw [if_neg (by omega)]
theorem t_compare {d : Nat} {h : Hp} {x y : Int} {Q : Nat → Option Value → Hp → Prop} (hx : i64 x) (hy : i64 y) (hq : Q 0 (some (.int (iI (if x < y then -1 else if x = y then 0 else 1)))) h) : PR d m_JLong_compare [.long (lI x), .long (lI y)] h Q := by
  have e1 : lI x > lI y ↔ y < x := lI_lt hy hx
  have e2 : lI x = lI y ↔ x = y := lI_eq hx hy
  have cg : (0 : Int32) ≤ lg_cmp (lI x) (lI y) ↔ y ≤ x := by
    unfold lg_cmp
    by_cases c1 : y < x
    · rw [if_pos (e1.mpr c1)]
      exact ⟨fun _ => by omega, fun _ => by decide⟩
    · rw [if_neg (fun z => c1 (e1.mp z))]
      by_cases c2 : x = y
      · rw [if_pos (e2.mpr c2)]
        exact ⟨fun _ => by omega, fun _ => by decide⟩
      · rw [if_neg (fun z => c2 (e2.mp z))]
        exact ⟨fun z => absurd z (by decide), fun z => by omega⟩
  have ce : lg_cmp (lI x) (lI y) = 0 ↔ x = y := by
    unfold lg_cmp
    by_cases c1 : y < x
    · rw [if_pos (e1.mpr c1)]
      exact ⟨fun z => absurd z (by decide), fun z => by omega⟩
    · rw [if_neg (fun z => c1 (e1.mp z))]
      by_cases c2 : x = y
      · rw [if_pos (e2.mpr c2)]
        exact ⟨fun _ => c2, fun _ => rfl⟩
      · rw [if_neg (fun z => c2 (e2.mp z))]
        exact ⟨fun z => absurd z (by decide), fun z => absurd z c2⟩
  show PW d 277 0 [some (.long (lI x)), none, some (.long (lI y)), none] [] h Q
  refine vs_ok 4 ?_
  rw [show ((gRes 277).drop 0).take 4 = [.lload 0, .lload 2, .lcmp, .ifCond .ge 6] from rfl]
  simp only [vs_lcmp, vs_ifCond, vs_lload0, vs_lload2, vs_nil, gv_0, gv_1, gv_2, gv_3, pv_0, pv_1, va_rf_s, Nat.reduceDiv, Nat.reduceMod, Nat.reduceAdd, Nat.reduceMul, Int.reduceToNat, true_and, and_true, and_self, cP_eq, cP_ne, cP_lt, cP_ge, cP_gt, cP_le, eL_i, eL_l, eL_r, eL_n, Option.toList_none, Option.toList_some, List.nil_append, List.cons_append]
  rw [cg]
  refine ⟨fun c => ?_, fun c => ?_⟩
  · refine vs_ok 4 ?_
    rw [show ((gRes 277).drop 6).take 4 = [.lload 0, .lload 2, .lcmp, .ifCond .ne 12] from rfl]
    simp only [vs_lcmp, vs_ifCond, vs_lload0, vs_lload2, vs_nil, gv_0, gv_1, gv_2, gv_3, pv_0, pv_1, va_rf_s, Nat.reduceDiv, Nat.reduceMod, Nat.reduceAdd, Nat.reduceMul, Int.reduceToNat, true_and, and_true, and_self, cP_eq, cP_ne, cP_lt, cP_ge, cP_gt, cP_le, eL_i, eL_l, eL_r, eL_n, Option.toList_none, Option.toList_some, List.nil_append, List.cons_append]
    rw [ce]
    refine ⟨fun c2 => ?_, fun c2 => ?_⟩
    · refine vs_ok 2 ?_
      rw [show ((gRes 277).drop 12).take 2 = [.iconst 1, .ireturn] from rfl]
      simp only [vs_iconst, vs_ireturn, vs_nil, gv_0, gv_1, gv_2, gv_3, pv_0, pv_1, va_rf_s, Nat.reduceDiv, Nat.reduceMod, Nat.reduceAdd, Nat.reduceMul, Int.reduceToNat, true_and, and_true, and_self, cP_eq, cP_ne, cP_lt, cP_ge, cP_gt, cP_le, eL_i, eL_l, eL_r, eL_n, Option.toList_none, Option.toList_some, List.nil_append, List.cons_append]
      rw [if_neg (by omega), if_neg c2] at hq
      exact ⟨Or.inl (by decide), hq⟩
    · refine vs_ok 2 ?_
      rw [show ((gRes 277).drop 10).take 2 = [.iconst 0, .goto 13] from rfl]
      simp only [vs_iconst, vs_goto, vs_nil, gv_0, gv_1, gv_2, gv_3, pv_0, pv_1, va_rf_s, Nat.reduceDiv, Nat.reduceMod, Nat.reduceAdd, Nat.reduceMul, Int.reduceToNat, true_and, and_true, and_self, cP_eq, cP_ne, cP_lt, cP_ge, cP_gt, cP_le, eL_i, eL_l, eL_r, eL_n, Option.toList_none, Option.toList_some, List.nil_append, List.cons_append]
      refine vs_ok 1 ?_
      rw [show ((gRes 277).drop 13).take 1 = [.ireturn] from rfl]
      simp only [vs_ireturn, vs_nil, gv_0, gv_1, gv_2, gv_3, pv_0, pv_1, va_rf_s, Nat.reduceDiv, Nat.reduceMod, Nat.reduceAdd, Nat.reduceMul, Int.reduceToNat, true_and, and_true, and_self, cP_eq, cP_ne, cP_lt, cP_ge, cP_gt, cP_le, eL_i, eL_l, eL_r, eL_n, Option.toList_none, Option.toList_some, List.nil_append, List.cons_append]
      rw [if_neg (by omega), if_pos (Classical.not_not.mp c2)] at hq
      exact ⟨Or.inl (by decide), hq⟩
  · refine vs_ok 2 ?_
    rw [show ((gRes 277).drop 4).take 2 = [.iconst (-1), .goto 13] from rfl]
    simp only [vs_iconst, vs_goto, vs_nil, gv_0, gv_1, gv_2, gv_3, pv_0, pv_1, va_rf_s, Nat.reduceDiv, Nat.reduceMod, Nat.reduceAdd, Nat.reduceMul, Int.reduceToNat, true_and, and_true, and_self, cP_eq, cP_ne, cP_lt, cP_ge, cP_gt, cP_le, eL_i, eL_l, eL_r, eL_n, Option.toList_none, Option.toList_some, List.nil_append, List.cons_append]
    refine vs_ok 1 ?_
    rw [show ((gRes 277).drop 13).take 1 = [.ireturn] from rfl]
    simp only [vs_ireturn, vs_nil, gv_0, gv_1, gv_2, gv_3, pv_0, pv_1, va_rf_s, Nat.reduceDiv, Nat.reduceMod, Nat.reduceAdd, Nat.reduceMul, Int.reduceToNat, true_and, and_true, and_self, cP_eq, cP_ne, cP_lt, cP_ge, cP_gt, cP_le, eL_i, eL_l, eL_r, eL_n, Option.toList_none, Option.toList_some, List.nil_append, List.cons_append]
    rw [if_pos (by omega)] at hq
    exact ⟨Or.inl (by decide), hq⟩
theorem t_bitCount {d : Nat} {h : Hp} {n : Nat} {Q : Nat → Option Value → Hp → Prop} (hn : n < 4096) (hq : Q 0 (some (.int (iI (pcN n 12 : Nat)))) h) : PR d m_JInteger_bitCount [.int (iI n)] h Q := by
  rw [← bcF_ok n hn] at hq
  show PW d 276 0 [some (.int (iI n))] [] h Q
  refine vs_ok 42 ?_
  rw [show ((gRes 276).drop 0).take 42 = [.iload 0, .iload 0, .iconst 1, .iushr, .iconst 1431655765, .iand, .isub, .istore 0, .iload 0, .iconst 858993459, .iand, .iload 0, .iconst 2, .iushr, .iconst 858993459, .iand, .iadd, .istore 0, .iload 0, .iload 0, .iconst 4, .iushr, .iadd, .iconst 252645135, .iand, .istore 0, .iload 0, .iload 0, .iconst 8, .iushr, .iadd, .istore 0, .iload 0, .iload 0, .iconst 16, .iushr, .iadd, .istore 0, .iload 0, .iconst 63, .iand, .ireturn] from rfl]
  simp only [vs_iadd, vs_isub, vs_iconst, vs_ireturn, vs_iload0, vs_istore0z, vs_nil, gv_0, gv_1, gv_2, gv_3, pv_0, pv_1, va_rf_s, vs_iand, vs_iushr, Nat.reduceDiv, Nat.reduceMod, Nat.reduceAdd, Nat.reduceMul, Int.reduceToNat, true_and, and_true, and_self, cP_eq, cP_ne, cP_lt, cP_ge, cP_gt, cP_le, eL_i, eL_l, eL_r, eL_n, Option.toList_none, Option.toList_some, List.nil_append, List.cons_append]
  exact ⟨Or.inl (by decide), hq⟩
