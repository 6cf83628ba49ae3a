/-! Row: above, lead, even, sumOfNumbers, farFrom, isMoved -/
theorem imax {x y : Int} (hx : i32 x) (hy : i32 y) : (if iI x < iI y then iI y else iI x) = iI (max x y) := by
  by_cases c : x < y
  · rw [if_pos ((iI_lt hx hy).mpr c), Int.max_eq_right (by omega)]
  · rw [if_neg (fun z => c ((iI_lt hx hy).mp z)), Int.max_eq_left (by omega)]
theorem imin {x y : Int} (hx : i32 x) (hy : i32 y) : (if iI y < iI x then iI y else iI x) = iI (min x y) := by
  by_cases c : y < x
  · rw [if_pos ((iI_lt hy hx).mpr c), Int.min_eq_right (by omega)]
  · rw [if_neg (fun z => c ((iI_lt hy hx).mp z)), Int.min_eq_left (by omega)]
/-- in how many WAYS one is greater -/
def abV (Wa Wb : Int → Int) : Int := pS (fun n => Wa n * pS Wb n) 1000
theorem t_above {d : Nat} {h : Hp} {a ra b rb : Nat} {la ha ta lb hb tb : Int} {Wa Wb : Int → Int} {Q : Nat → Option Value → Hp → Prop} (hv : rowV h a ra la ha ta Wa) (ho : rowV h b rb lb hb tb Wb)
    (hq : Q 0 (some (.long (lI (abV Wa Wb)))) h) : PR (d + 1) m_Row_above [.ref a, .ref b] h Q := by
  have hra := hv.1.2.2.2.2.2.2.2
  have hrb := ho.1.2.2.2.2.2.2.2
  have va5 := hv.2.2.2.2.1
  have vb5 := ho.2.2.2.2.1
  show PW (d + 1) 77 0 [some (.ref a), some (.ref b), none, none, none, none, none] [] h Q
  refine vs_ok 10 ?_
  rw [show ((gRes 77).drop 0).take 10 = [.jsr_w 0, .lstore 2, .jsr_w 0, .lstore 4, .aload 0, .getfield 6020, .aload 1, .getfield 6020, .invokedynamic 3, .istore 6] from rfl]
  simp only [vs_jsr_w, vs_getfield, vs_aload0, vs_aload1, vs_lstore2n, vs_lstore2i, vs_lstore2r, vs_lstore2l, vs_lstore4n, vs_lstore4i, vs_lstore4r, vs_lstore4l, vs_istore6n, vs_istore6i, vs_istore6r, vs_istore6l, vs_nil, gv_0, gv_1, gv_2, gv_3, pv_0, pv_1, va_rf_s, vs_abs, vs_max, vs_min, vs_oinit, Nat.reduceDiv, Nat.reduceMod, Nat.reduceAdd, Nat.reduceMul, Int.reduceToNat, true_and, and_true, and_self, cP_eq, cP_ne, cP_lt, cP_ge, cP_gt, cP_le, eL_i, eL_l, eL_r, eL_n, Option.toList_none, Option.toList_some, List.nil_append, List.cons_append, hv.1.1, hv.1.2.1, ho.1.1, ho.1.2.1, hv.2.1, ho.2.1]
  rw [imin (by constructor <;> omega) (by constructor <;> omega)]
  refine ⟨le_b rfl, ?_⟩
  have loop : ∀ (k : Nat) (n : Int), k = (ha + 1 - n).toNat → -800 ≤ n → n ≤ ha + 1 → PW (d + 1) 77 10 [some (.ref a), some (.ref b), some (.long (lI (pS (fun n => Wa n * pS Wb n) n))), none, some (.long (lI (pS Wb n))), none, some (.int (iI n))] [] h Q := by
    intro k
    induction k with
    | zero =>
      intro n hk hn1 hn2
      refine vs_ok 4 ?_
      rw [show ((gRes 77).drop 10).take 4 = [.iload 6, .aload 0, .getfield 6030, .if_icmp .gt 30] from rfl]
      simp only [vs_if_icmp, vs_getfield, vs_aload0, vs_iload6, vs_nil, gv_0, gv_1, gv_2, gv_3, pv_0, pv_1, va_rf_s, Nat.reduceDiv, Nat.reduceMod, Nat.reduceAdd, Nat.reduceMul, Int.reduceToNat, true_and, and_true, and_self, cP_eq, cP_ne, cP_lt, cP_ge, cP_gt, cP_le, eL_i, eL_l, eL_r, eL_n, Option.toList_none, Option.toList_some, List.nil_append, List.cons_append, hv.1.1, hv.1.2.1, hv.2.2.1]
      rw [iI_lt (by constructor <;> omega) (by constructor <;> omega)]
      refine ⟨fun _ => ?_, fun c => absurd (show ha < n by omega) c⟩
      refine vs_ok 2 ?_
      rw [show ((gRes 77).drop 30).take 2 = [.lload 2, .lreturn] from rfl]
      simp only [vs_lreturn, vs_lload2, vs_nil, gv_0, gv_1, gv_2, gv_3, pv_0, pv_1, va_rf_s, Nat.reduceDiv, Nat.reduceMod, Nat.reduceAdd, Nat.reduceMul, Int.reduceToNat, true_and, and_true, and_self, cP_eq, cP_ne, cP_lt, cP_ge, cP_gt, cP_le, eL_i, eL_l, eL_r, eL_n, Option.toList_none, Option.toList_some, List.nil_append, List.cons_append]
      refine ⟨by decide, ?_⟩
      rw [← pS_top (f := fun n => Wa n * pS Wb n) (a := n) (b := 1000) (by omega) (by omega) (fun m m1 m2 => by rw [hv.2.2.2.2.2.2 m (by omega), Int.zero_mul])]
      exact hq
    | succ k ih =>
      intro n hk hn1 hn2
      refine vs_ok 4 ?_
      rw [show ((gRes 77).drop 10).take 4 = [.iload 6, .aload 0, .getfield 6030, .if_icmp .gt 30] from rfl]
      simp only [vs_if_icmp, vs_getfield, vs_aload0, vs_iload6, vs_nil, gv_0, gv_1, gv_2, gv_3, pv_0, pv_1, va_rf_s, Nat.reduceDiv, Nat.reduceMod, Nat.reduceAdd, Nat.reduceMul, Int.reduceToNat, true_and, and_true, and_self, cP_eq, cP_ne, cP_lt, cP_ge, cP_gt, cP_le, eL_i, eL_l, eL_r, eL_n, Option.toList_none, Option.toList_some, List.nil_append, List.cons_append, hv.1.1, hv.1.2.1, hv.2.2.1]
      rw [iI_lt (by constructor <;> omega) (by constructor <;> omega)]
      refine ⟨fun c => absurd c (by omega), fun _ => ?_⟩
      refine vs_ok 4 ?_
      rw [show ((gRes 77).drop 14).take 4 = [.lload 2, .aload 0, .iload 6, .invokevirtual 66] from rfl]
      simp only [vs_iv, vs_aload0, vs_lload2, vs_iload6, vs_nil, gv_0, gv_1, gv_2, gv_3, pv_0, pv_1, va_rf_s, Nat.reduceDiv, Nat.reduceMod, Nat.reduceAdd, Nat.reduceMul, Int.reduceToNat, true_and, and_true, and_self, cP_eq, cP_ne, cP_lt, cP_ge, cP_gt, cP_le, eL_i, eL_l, eL_r, eL_n, Option.toList_none, Option.toList_some, List.nil_append, List.cons_append]
      refine PW.iv rfl rfl rfl hv.1.1 hv.1.2.1 (le_b rfl) (le_b rfl) ?_
      refine t_atV hv ⟨by omega, by omega⟩ ⟨rfl, ⟨rfl, rfl⟩, ?_⟩
      refine vs_ok 8 ?_
      rw [show ((gRes 77).drop 18).take 8 = [.lload 4, .lmul, .ladd, .lstore 2, .lload 4, .aload 1, .iload 6, .invokevirtual 66] from rfl]
      simp only [vs_ladd, vs_lmul, vs_iv, vs_aload1, vs_lstore2n, vs_lstore2i, vs_lstore2r, vs_lstore2l, vs_lload4, vs_iload6, vs_nil, gv_0, gv_1, gv_2, gv_3, pv_0, pv_1, va_rf_s, Nat.reduceDiv, Nat.reduceMod, Nat.reduceAdd, Nat.reduceMul, Int.reduceToNat, true_and, and_true, and_self, cP_eq, cP_ne, cP_lt, cP_ge, cP_gt, cP_le, eL_i, eL_l, eL_r, eL_n, Option.toList_none, Option.toList_some, List.nil_append, List.cons_append, lI_mul, lI_add]
      refine PW.iv rfl rfl rfl ho.1.1 ho.1.2.1 (le_b rfl) (le_b rfl) ?_
      refine t_atV ho ⟨by omega, by omega⟩ ⟨rfl, ⟨rfl, rfl⟩, ?_⟩
      refine vs_ok 4 ?_
      rw [show ((gRes 77).drop 26).take 4 = [.ladd, .lstore 4, .iinc 6 1, .goto 10] from rfl]
      simp only [vs_ladd, vs_goto, vs_lstore4n, vs_lstore4i, vs_lstore4r, vs_lstore4l, vs_iinc6n, vs_iinc6i, vs_iinc6r, vs_iinc6l, vs_nil, gv_0, gv_1, gv_2, gv_3, pv_0, pv_1, va_rf_s, Nat.reduceDiv, Nat.reduceMod, Nat.reduceAdd, Nat.reduceMul, Int.reduceToNat, true_and, and_true, and_self, cP_eq, cP_ne, cP_lt, cP_ge, cP_gt, cP_le, eL_i, eL_l, eL_r, eL_n, Option.toList_none, Option.toList_some, List.nil_append, List.cons_append, lI_add, iI_add]
      rw [← pS_s (f := Wb) (by omega), ← pS_s (f := fun n => Wa n * pS Wb n) (by omega)]
      exact ih (n + 1) (by omega) (by omega) (by omega)
  have z1 : pS Wb (min la lb) = 0 := pS_zero fun m m1 m2 => ho.2.2.2.2.2.2 m (by omega)
  have z2 : pS (fun n => Wa n * pS Wb n) (min la lb) = 0 := pS_zero fun m m1 m2 => by rw [hv.2.2.2.2.2.2 m (by omega), Int.zero_mul]
  have := loop _ (min la lb) rfl (by omega) (by omega)
  rw [z1, z2] at this
  exact this
theorem t_even {d : Nat} {h : Hp} {a ra b rb : Nat} {la ha ta lb hb tb : Int} {Wa Wb : Int → Int} {Q : Nat → Option Value → Hp → Prop} (hv : rowV h a ra la ha ta Wa) (ho : rowV h b rb lb hb tb Wb)
    (hq : Q 0 (some (.long (lI (pS (fun n => Wa n * Wb n) 1000)))) h) : PR (d + 1) m_Row_even [.ref a, .ref b] h Q := by
  have hra := hv.1.2.2.2.2.2.2.2
  have va5 := hv.2.2.2.2.1
  show PW (d + 1) 79 0 [some (.ref a), some (.ref b), none, none, none] [] h Q
  refine vs_ok 5 ?_
  rw [show ((gRes 79).drop 0).take 5 = [.jsr_w 0, .lstore 2, .aload 0, .getfield 6020, .istore 4] from rfl]
  simp only [vs_jsr_w, vs_getfield, vs_aload0, vs_lstore2n, vs_lstore2i, vs_lstore2r, vs_lstore2l, vs_istore4n, vs_istore4i, vs_istore4r, vs_istore4l, vs_nil, gv_0, gv_1, gv_2, gv_3, pv_0, pv_1, va_rf_s, Nat.reduceDiv, Nat.reduceMod, Nat.reduceAdd, Nat.reduceMul, Int.reduceToNat, true_and, and_true, and_self, cP_eq, cP_ne, cP_lt, cP_ge, cP_gt, cP_le, eL_i, eL_l, eL_r, eL_n, Option.toList_none, Option.toList_some, List.nil_append, List.cons_append, hv.1.1, hv.1.2.1, hv.2.1]
  have loop : ∀ (k : Nat) (n : Int), k = (ha + 1 - n).toNat → -800 ≤ n → n ≤ ha + 1 → PW (d + 1) 79 5 [some (.ref a), some (.ref b), some (.long (lI (pS (fun n => Wa n * Wb n) n))), none, some (.int (iI n))] [] h Q := by
    intro k
    induction k with
    | zero =>
      intro n hk hn1 hn2
      refine vs_ok 4 ?_
      rw [show ((gRes 79).drop 5).take 4 = [.iload 4, .aload 0, .getfield 6030, .if_icmp .gt 21] from rfl]
      simp only [vs_if_icmp, vs_getfield, vs_aload0, vs_iload4, vs_nil, gv_0, gv_1, gv_2, gv_3, pv_0, pv_1, va_rf_s, Nat.reduceDiv, Nat.reduceMod, Nat.reduceAdd, Nat.reduceMul, Int.reduceToNat, true_and, and_true, and_self, cP_eq, cP_ne, cP_lt, cP_ge, cP_gt, cP_le, eL_i, eL_l, eL_r, eL_n, Option.toList_none, Option.toList_some, List.nil_append, List.cons_append, hv.1.1, hv.1.2.1, hv.2.2.1]
      rw [iI_lt (by constructor <;> omega) (by constructor <;> omega)]
      refine ⟨fun _ => ?_, fun c => absurd (show ha < n by omega) c⟩
      refine vs_ok 2 ?_
      rw [show ((gRes 79).drop 21).take 2 = [.lload 2, .lreturn] from rfl]
      simp only [vs_lreturn, vs_lload2, vs_nil, gv_0, gv_1, gv_2, gv_3, pv_0, pv_1, va_rf_s, Nat.reduceDiv, Nat.reduceMod, Nat.reduceAdd, Nat.reduceMul, Int.reduceToNat, true_and, and_true, and_self, cP_eq, cP_ne, cP_lt, cP_ge, cP_gt, cP_le, eL_i, eL_l, eL_r, eL_n, Option.toList_none, Option.toList_some, List.nil_append, List.cons_append]
      refine ⟨by decide, ?_⟩
      rw [← pS_top (f := fun n => Wa n * Wb n) (a := n) (b := 1000) (by omega) (by omega) (fun m m1 m2 => by rw [hv.2.2.2.2.2.2 m (by omega), Int.zero_mul])]
      exact hq
    | succ k ih =>
      intro n hk hn1 hn2
      refine vs_ok 4 ?_
      rw [show ((gRes 79).drop 5).take 4 = [.iload 4, .aload 0, .getfield 6030, .if_icmp .gt 21] from rfl]
      simp only [vs_if_icmp, vs_getfield, vs_aload0, vs_iload4, vs_nil, gv_0, gv_1, gv_2, gv_3, pv_0, pv_1, va_rf_s, Nat.reduceDiv, Nat.reduceMod, Nat.reduceAdd, Nat.reduceMul, Int.reduceToNat, true_and, and_true, and_self, cP_eq, cP_ne, cP_lt, cP_ge, cP_gt, cP_le, eL_i, eL_l, eL_r, eL_n, Option.toList_none, Option.toList_some, List.nil_append, List.cons_append, hv.1.1, hv.1.2.1, hv.2.2.1]
      rw [iI_lt (by constructor <;> omega) (by constructor <;> omega)]
      refine ⟨fun c => absurd c (by omega), fun _ => ?_⟩
      refine vs_ok 4 ?_
      rw [show ((gRes 79).drop 9).take 4 = [.lload 2, .aload 0, .iload 4, .invokevirtual 66] from rfl]
      simp only [vs_iv, vs_aload0, vs_lload2, vs_iload4, vs_nil, gv_0, gv_1, gv_2, gv_3, pv_0, pv_1, va_rf_s, Nat.reduceDiv, Nat.reduceMod, Nat.reduceAdd, Nat.reduceMul, Int.reduceToNat, true_and, and_true, and_self, cP_eq, cP_ne, cP_lt, cP_ge, cP_gt, cP_le, eL_i, eL_l, eL_r, eL_n, Option.toList_none, Option.toList_some, List.nil_append, List.cons_append]
      refine PW.iv rfl rfl rfl hv.1.1 hv.1.2.1 (le_b rfl) (le_b rfl) ?_
      refine t_atV hv ⟨by omega, by omega⟩ ⟨rfl, ⟨rfl, rfl⟩, ?_⟩
      refine vs_ok 3 ?_
      rw [show ((gRes 79).drop 13).take 3 = [.aload 1, .iload 4, .invokevirtual 66] from rfl]
      simp only [vs_iv, vs_aload1, vs_iload4, vs_nil, gv_0, gv_1, gv_2, gv_3, pv_0, pv_1, va_rf_s, Nat.reduceDiv, Nat.reduceMod, Nat.reduceAdd, Nat.reduceMul, Int.reduceToNat, true_and, and_true, and_self, cP_eq, cP_ne, cP_lt, cP_ge, cP_gt, cP_le, eL_i, eL_l, eL_r, eL_n, Option.toList_none, Option.toList_some, List.nil_append, List.cons_append]
      refine PW.iv rfl rfl rfl ho.1.1 ho.1.2.1 (le_b rfl) (le_b rfl) ?_
      refine t_atV ho ⟨by omega, by omega⟩ ⟨rfl, ⟨rfl, rfl⟩, ?_⟩
      refine vs_ok 5 ?_
      rw [show ((gRes 79).drop 16).take 5 = [.lmul, .ladd, .lstore 2, .iinc 4 1, .goto 5] from rfl]
      simp only [vs_ladd, vs_lmul, vs_goto, vs_lstore2n, vs_lstore2i, vs_lstore2r, vs_lstore2l, vs_iinc4n, vs_iinc4i, vs_iinc4r, vs_iinc4l, vs_nil, gv_0, gv_1, gv_2, gv_3, pv_0, pv_1, va_rf_s, Nat.reduceDiv, Nat.reduceMod, Nat.reduceAdd, Nat.reduceMul, Int.reduceToNat, true_and, and_true, and_self, cP_eq, cP_ne, cP_lt, cP_ge, cP_gt, cP_le, eL_i, eL_l, eL_r, eL_n, Option.toList_none, Option.toList_some, List.nil_append, List.cons_append, lI_mul, lI_add, iI_add]
      rw [← pS_s (f := fun n => Wa n * Wb n) (by omega)]
      exact ih (n + 1) (by omega) (by omega) (by omega)
  have z2 : pS (fun n => Wa n * Wb n) la = 0 := pS_zero fun m m1 m2 => by rw [hv.2.2.2.2.2.2 m (by omega), Int.zero_mul]
  have := loop _ la rfl (by omega) (by omega)
  rw [z2] at this
  exact this
theorem t_sumOfNumbers {d : Nat} {h : Hp} {a ra : Nat} {la ha ta : Int} {Wa : Int → Int} {Q : Nat → Option Value → Hp → Prop} (hv : rowV h a ra la ha ta Wa)
    (hq : Q 0 (some (.long (lI (pS (fun n => n * Wa n) 1000)))) h) : PR (d + 1) m_Row_sumOfNumbers [.ref a] h Q := by
  have hra := hv.1.2.2.2.2.2.2.2
  have va5 := hv.2.2.2.2.1
  show PW (d + 1) 80 0 [some (.ref a), none, none, none] [] h Q
  refine vs_ok 5 ?_
  rw [show ((gRes 80).drop 0).take 5 = [.jsr_w 0, .lstore 1, .aload 0, .getfield 6020, .istore 3] from rfl]
  simp only [vs_jsr_w, vs_getfield, vs_aload0, vs_lstore1n, vs_lstore1i, vs_lstore1r, vs_lstore1l, vs_istore3n, vs_istore3i, vs_istore3r, vs_istore3l, vs_nil, gv_0, gv_1, gv_2, gv_3, pv_0, pv_1, va_rf_s, Nat.reduceDiv, Nat.reduceMod, Nat.reduceAdd, Nat.reduceMul, Int.reduceToNat, true_and, and_true, and_self, cP_eq, cP_ne, cP_lt, cP_ge, cP_gt, cP_le, eL_i, eL_l, eL_r, eL_n, Option.toList_none, Option.toList_some, List.nil_append, List.cons_append, hv.1.1, hv.1.2.1, hv.2.1]
  have loop : ∀ (k : Nat) (n : Int), k = (ha + 1 - n).toNat → -800 ≤ n → n ≤ ha + 1 → PW (d + 1) 80 5 [some (.ref a), some (.long (lI (pS (fun n => n * Wa n) n))), none, some (.int (iI n))] [] h Q := by
    intro k
    induction k with
    | zero =>
      intro n hk hn1 hn2
      refine vs_ok 4 ?_
      rw [show ((gRes 80).drop 5).take 4 = [.iload 3, .aload 0, .getfield 6030, .if_icmp .gt 20] from rfl]
      simp only [vs_if_icmp, vs_getfield, vs_aload0, vs_iload3, vs_nil, gv_0, gv_1, gv_2, gv_3, pv_0, pv_1, va_rf_s, Nat.reduceDiv, Nat.reduceMod, Nat.reduceAdd, Nat.reduceMul, Int.reduceToNat, true_and, and_true, and_self, cP_eq, cP_ne, cP_lt, cP_ge, cP_gt, cP_le, eL_i, eL_l, eL_r, eL_n, Option.toList_none, Option.toList_some, List.nil_append, List.cons_append, hv.1.1, hv.1.2.1, hv.2.2.1]
      rw [iI_lt (by constructor <;> omega) (by constructor <;> omega)]
      refine ⟨fun _ => ?_, fun c => absurd (show ha < n by omega) c⟩
      refine vs_ok 2 ?_
      rw [show ((gRes 80).drop 20).take 2 = [.lload 1, .lreturn] from rfl]
      simp only [vs_lreturn, vs_lload1, vs_nil, gv_0, gv_1, gv_2, gv_3, pv_0, pv_1, va_rf_s, Nat.reduceDiv, Nat.reduceMod, Nat.reduceAdd, Nat.reduceMul, Int.reduceToNat, true_and, and_true, and_self, cP_eq, cP_ne, cP_lt, cP_ge, cP_gt, cP_le, eL_i, eL_l, eL_r, eL_n, Option.toList_none, Option.toList_some, List.nil_append, List.cons_append]
      refine ⟨by decide, ?_⟩
      rw [← pS_top (f := fun n => n * Wa n) (a := n) (b := 1000) (by omega) (by omega) (fun m m1 m2 => by rw [hv.2.2.2.2.2.2 m (by omega), Int.mul_zero])]
      exact hq
    | succ k ih =>
      intro n hk hn1 hn2
      refine vs_ok 4 ?_
      rw [show ((gRes 80).drop 5).take 4 = [.iload 3, .aload 0, .getfield 6030, .if_icmp .gt 20] from rfl]
      simp only [vs_if_icmp, vs_getfield, vs_aload0, vs_iload3, vs_nil, gv_0, gv_1, gv_2, gv_3, pv_0, pv_1, va_rf_s, Nat.reduceDiv, Nat.reduceMod, Nat.reduceAdd, Nat.reduceMul, Int.reduceToNat, true_and, and_true, and_self, cP_eq, cP_ne, cP_lt, cP_ge, cP_gt, cP_le, eL_i, eL_l, eL_r, eL_n, Option.toList_none, Option.toList_some, List.nil_append, List.cons_append, hv.1.1, hv.1.2.1, hv.2.2.1]
      rw [iI_lt (by constructor <;> omega) (by constructor <;> omega)]
      refine ⟨fun c => absurd c (by omega), fun _ => ?_⟩
      refine vs_ok 6 ?_
      rw [show ((gRes 80).drop 9).take 6 = [.lload 1, .iload 3, .i2l, .aload 0, .iload 3, .invokevirtual 66] from rfl]
      simp only [vs_i2l, vs_iv, vs_aload0, vs_lload1, vs_iload3, vs_nil, gv_0, gv_1, gv_2, gv_3, pv_0, pv_1, va_rf_s, Nat.reduceDiv, Nat.reduceMod, Nat.reduceAdd, Nat.reduceMul, Int.reduceToNat, true_and, and_true, and_self, cP_eq, cP_ne, cP_lt, cP_ge, cP_gt, cP_le, eL_i, eL_l, eL_r, eL_n, Option.toList_none, Option.toList_some, List.nil_append, List.cons_append]
      refine PW.iv rfl rfl rfl hv.1.1 hv.1.2.1 (le_b rfl) (le_b rfl) ?_
      refine t_atV hv ⟨by omega, by omega⟩ ⟨rfl, ⟨rfl, rfl⟩, ?_⟩
      rw [iI_tol (by constructor <;> omega)]
      refine vs_ok 5 ?_
      rw [show ((gRes 80).drop 15).take 5 = [.lmul, .ladd, .lstore 1, .iinc 3 1, .goto 5] from rfl]
      simp only [vs_ladd, vs_lmul, vs_goto, vs_lstore1n, vs_lstore1i, vs_lstore1r, vs_lstore1l, vs_iinc3n, vs_iinc3i, vs_iinc3r, vs_iinc3l, vs_nil, gv_0, gv_1, gv_2, gv_3, pv_0, pv_1, va_rf_s, Nat.reduceDiv, Nat.reduceMod, Nat.reduceAdd, Nat.reduceMul, Int.reduceToNat, true_and, and_true, and_self, cP_eq, cP_ne, cP_lt, cP_ge, cP_gt, cP_le, eL_i, eL_l, eL_r, eL_n, Option.toList_none, Option.toList_some, List.nil_append, List.cons_append, lI_mul, lI_add, iI_add]
      rw [← pS_s (f := fun n => n * Wa n) (by omega)]
      exact ih (n + 1) (by omega) (by omega) (by omega)
  have z2 : pS (fun n => n * Wa n) la = 0 := pS_zero fun m m1 m2 => by rw [hv.2.2.2.2.2.2 m (by omega), Int.mul_zero]
  have := loop _ la rfl (by omega) (by omega)
  rw [z2] at this
  exact this
/-- GREATER less LESS -/
def ldV (Wa Wb : Int → Int) : Int := pS (fun n => Wa n * pS Wb n - Wb n * pS Wa n) 1000
theorem t_lead {d : Nat} {h : Hp} {a ra b rb : Nat} {la ha ta lb hb tb : Int} {Wa Wb : Int → Int} {Q : Nat → Option Value → Hp → Prop} (hv : rowV h a ra la ha ta Wa) (ho : rowV h b rb lb hb tb Wb)
    (hq : Q 0 (some (.long (lI (ldV Wa Wb)))) h) : PR (d + 1) m_Row_lead [.ref a, .ref b] h Q := by
  have hra := hv.1.2.2.2.2.2.2.2
  have hrb := ho.1.2.2.2.2.2.2.2
  have va5 := hv.2.2.2.2.1
  have vb5 := ho.2.2.2.2.1
  show PW (d + 1) 78 0 [some (.ref a), some (.ref b), none, none, none, none, none, none, none] [] h Q
  refine vs_ok 12 ?_
  rw [show ((gRes 78).drop 0).take 12 = [.jsr_w 0, .lstore 2, .jsr_w 0, .lstore 4, .jsr_w 0, .lstore 6, .aload 0, .getfield 6020, .aload 1, .getfield 6020, .invokedynamic 3, .istore 8] from rfl]
  simp only [vs_jsr_w, vs_getfield, vs_aload0, vs_aload1, vs_lstore2n, vs_lstore2i, vs_lstore2r, vs_lstore2l, vs_lstore4n, vs_lstore4i, vs_lstore4r, vs_lstore4l, vs_lstore6n, vs_lstore6i, vs_lstore6r, vs_lstore6l, vs_istore8n, vs_istore8i, vs_istore8r, vs_istore8l, vs_nil, gv_0, gv_1, gv_2, gv_3, pv_0, pv_1, va_rf_s, vs_abs, vs_max, vs_min, vs_oinit, Nat.reduceDiv, Nat.reduceMod, Nat.reduceAdd, Nat.reduceMul, Int.reduceToNat, true_and, and_true, and_self, cP_eq, cP_ne, cP_lt, cP_ge, cP_gt, cP_le, eL_i, eL_l, eL_r, eL_n, Option.toList_none, Option.toList_some, List.nil_append, List.cons_append, hv.1.1, hv.1.2.1, ho.1.1, ho.1.2.1, hv.2.1, ho.2.1]
  rw [imin (by constructor <;> omega) (by constructor <;> omega)]
  refine ⟨le_b rfl, ?_⟩
  have loop : ∀ (k : Nat) (n : Int), k = (max ha hb + 1 - n).toNat → -800 ≤ n → n ≤ max ha hb + 1 → PW (d + 1) 78 12 [some (.ref a), some (.ref b), some (.long (lI (pS (fun n => Wa n * pS Wb n - Wb n * pS Wa n) n))), none, some (.long (lI (pS Wa n))), none, some (.long (lI (pS Wb n))), none, some (.int (iI n))] [] h Q := by
    intro k
    induction k with
    | zero =>
      intro n hk hn1 hn2
      refine vs_ok 7 ?_
      rw [show ((gRes 78).drop 12).take 7 = [.iload 8, .aload 0, .getfield 6030, .aload 1, .getfield 6030, .invokedynamic 2, .if_icmp .gt 47] from rfl]
      simp only [vs_if_icmp, vs_getfield, vs_aload0, vs_aload1, vs_iload8, vs_nil, gv_0, gv_1, gv_2, gv_3, pv_0, pv_1, va_rf_s, vs_abs, vs_max, vs_min, vs_oinit, Nat.reduceDiv, Nat.reduceMod, Nat.reduceAdd, Nat.reduceMul, Int.reduceToNat, true_and, and_true, and_self, cP_eq, cP_ne, cP_lt, cP_ge, cP_gt, cP_le, eL_i, eL_l, eL_r, eL_n, Option.toList_none, Option.toList_some, List.nil_append, List.cons_append, hv.1.1, hv.1.2.1, ho.1.1, ho.1.2.1, hv.2.2.1, ho.2.2.1]
      rw [imax (by constructor <;> omega) (by constructor <;> omega), iI_lt (by constructor <;> omega) (by constructor <;> omega)]
      refine ⟨le_b rfl, fun _ => ?_, fun c => absurd (show max ha hb < n by omega) c⟩
      refine vs_ok 2 ?_
      rw [show ((gRes 78).drop 47).take 2 = [.lload 2, .lreturn] from rfl]
      simp only [vs_lreturn, vs_lload2, vs_nil, gv_0, gv_1, gv_2, gv_3, pv_0, pv_1, va_rf_s, Nat.reduceDiv, Nat.reduceMod, Nat.reduceAdd, Nat.reduceMul, Int.reduceToNat, true_and, and_true, and_self, cP_eq, cP_ne, cP_lt, cP_ge, cP_gt, cP_le, eL_i, eL_l, eL_r, eL_n, Option.toList_none, Option.toList_some, List.nil_append, List.cons_append]
      refine ⟨by decide, ?_⟩
      rw [← pS_top (f := fun n => Wa n * pS Wb n - Wb n * pS Wa n) (a := n) (b := 1000) (by omega) (by omega) (fun m m1 m2 => by rw [hv.2.2.2.2.2.2 m (by omega), ho.2.2.2.2.2.2 m (by omega), Int.zero_mul, Int.zero_mul]; rfl)]
      exact hq
    | succ k ih =>
      intro n hk hn1 hn2
      refine vs_ok 7 ?_
      rw [show ((gRes 78).drop 12).take 7 = [.iload 8, .aload 0, .getfield 6030, .aload 1, .getfield 6030, .invokedynamic 2, .if_icmp .gt 47] from rfl]
      simp only [vs_if_icmp, vs_getfield, vs_aload0, vs_aload1, vs_iload8, vs_nil, gv_0, gv_1, gv_2, gv_3, pv_0, pv_1, va_rf_s, vs_abs, vs_max, vs_min, vs_oinit, Nat.reduceDiv, Nat.reduceMod, Nat.reduceAdd, Nat.reduceMul, Int.reduceToNat, true_and, and_true, and_self, cP_eq, cP_ne, cP_lt, cP_ge, cP_gt, cP_le, eL_i, eL_l, eL_r, eL_n, Option.toList_none, Option.toList_some, List.nil_append, List.cons_append, hv.1.1, hv.1.2.1, ho.1.1, ho.1.2.1, hv.2.2.1, ho.2.2.1]
      rw [imax (by constructor <;> omega) (by constructor <;> omega), iI_lt (by constructor <;> omega) (by constructor <;> omega)]
      refine ⟨le_b rfl, fun c => absurd c (by omega), fun _ => ?_⟩
      refine vs_ok 4 ?_
      rw [show ((gRes 78).drop 19).take 4 = [.lload 2, .aload 0, .iload 8, .invokevirtual 66] from rfl]
      simp only [vs_iv, vs_aload0, vs_lload2, vs_iload8, vs_nil, gv_0, gv_1, gv_2, gv_3, pv_0, pv_1, va_rf_s, Nat.reduceDiv, Nat.reduceMod, Nat.reduceAdd, Nat.reduceMul, Int.reduceToNat, true_and, and_true, and_self, cP_eq, cP_ne, cP_lt, cP_ge, cP_gt, cP_le, eL_i, eL_l, eL_r, eL_n, Option.toList_none, Option.toList_some, List.nil_append, List.cons_append]
      refine PW.iv rfl rfl rfl hv.1.1 hv.1.2.1 (le_b rfl) (le_b rfl) ?_
      refine t_atV hv ⟨by omega, by omega⟩ ⟨rfl, ⟨rfl, rfl⟩, ?_⟩
      refine vs_ok 5 ?_
      rw [show ((gRes 78).drop 23).take 5 = [.lload 6, .lmul, .aload 1, .iload 8, .invokevirtual 66] from rfl]
      simp only [vs_lmul, vs_iv, vs_aload1, vs_lload6, vs_iload8, vs_nil, gv_0, gv_1, gv_2, gv_3, pv_0, pv_1, va_rf_s, Nat.reduceDiv, Nat.reduceMod, Nat.reduceAdd, Nat.reduceMul, Int.reduceToNat, true_and, and_true, and_self, cP_eq, cP_ne, cP_lt, cP_ge, cP_gt, cP_le, eL_i, eL_l, eL_r, eL_n, Option.toList_none, Option.toList_some, List.nil_append, List.cons_append, lI_mul]
      refine PW.iv rfl rfl rfl ho.1.1 ho.1.2.1 (le_b rfl) (le_b rfl) ?_
      refine t_atV ho ⟨by omega, by omega⟩ ⟨rfl, ⟨rfl, rfl⟩, ?_⟩
      refine vs_ok 8 ?_
      rw [show ((gRes 78).drop 28).take 8 = [.lload 4, .lmul, .lsub, .ladd, .lstore 2, .lload 4, .aload 0, .iload 8] from rfl]
      simp only [vs_ladd, vs_lsub, vs_lmul, vs_aload0, vs_lstore2n, vs_lstore2i, vs_lstore2r, vs_lstore2l, vs_lload4, vs_iload8, vs_nil, gv_0, gv_1, gv_2, gv_3, pv_0, pv_1, va_rf_s, Nat.reduceDiv, Nat.reduceMod, Nat.reduceAdd, Nat.reduceMul, Int.reduceToNat, true_and, and_true, and_self, cP_eq, cP_ne, cP_lt, cP_ge, cP_gt, cP_le, eL_i, eL_l, eL_r, eL_n, Option.toList_none, Option.toList_some, List.nil_append, List.cons_append, lI_mul, lI_sub, lI_add]
      refine PW.iv rfl rfl rfl hv.1.1 hv.1.2.1 (le_b rfl) (le_b rfl) ?_
      refine t_atV hv ⟨by omega, by omega⟩ ⟨rfl, ⟨rfl, rfl⟩, ?_⟩
      refine vs_ok 5 ?_
      rw [show ((gRes 78).drop 37).take 5 = [.ladd, .lstore 4, .lload 6, .aload 1, .iload 8] from rfl]
      simp only [vs_ladd, vs_aload1, vs_lstore4n, vs_lstore4i, vs_lstore4r, vs_lstore4l, vs_lload6, vs_iload8, vs_nil, gv_0, gv_1, gv_2, gv_3, pv_0, pv_1, va_rf_s, Nat.reduceDiv, Nat.reduceMod, Nat.reduceAdd, Nat.reduceMul, Int.reduceToNat, true_and, and_true, and_self, cP_eq, cP_ne, cP_lt, cP_ge, cP_gt, cP_le, eL_i, eL_l, eL_r, eL_n, Option.toList_none, Option.toList_some, List.nil_append, List.cons_append, lI_add]
      refine PW.iv rfl rfl rfl ho.1.1 ho.1.2.1 (le_b rfl) (le_b rfl) ?_
      refine t_atV ho ⟨by omega, by omega⟩ ⟨rfl, ⟨rfl, rfl⟩, ?_⟩
      refine vs_ok 4 ?_
      rw [show ((gRes 78).drop 43).take 4 = [.ladd, .lstore 6, .iinc 8 1, .goto 12] from rfl]
      simp only [vs_ladd, vs_goto, vs_lstore6n, vs_lstore6i, vs_lstore6r, vs_lstore6l, vs_iinc8n, vs_iinc8i, vs_iinc8r, vs_iinc8l, vs_nil, gv_0, gv_1, gv_2, gv_3, pv_0, pv_1, va_rf_s, Nat.reduceDiv, Nat.reduceMod, Nat.reduceAdd, Nat.reduceMul, Int.reduceToNat, true_and, and_true, and_self, cP_eq, cP_ne, cP_lt, cP_ge, cP_gt, cP_le, eL_i, eL_l, eL_r, eL_n, Option.toList_none, Option.toList_some, List.nil_append, List.cons_append, lI_add, iI_add]
      rw [← pS_s (f := Wb) (by omega), ← pS_s (f := Wa) (by omega), ← pS_s (f := fun n => Wa n * pS Wb n - Wb n * pS Wa n) (by omega)]
      exact ih (n + 1) (by omega) (by omega) (by omega)
  have z1 : pS Wb (min la lb) = 0 := pS_zero fun m m1 m2 => ho.2.2.2.2.2.2 m (by omega)
  have z0 : pS Wa (min la lb) = 0 := pS_zero fun m m1 m2 => hv.2.2.2.2.2.2 m (by omega)
  have z2 : pS (fun n => Wa n * pS Wb n - Wb n * pS Wa n) (min la lb) = 0 := pS_zero fun m m1 m2 => by rw [hv.2.2.2.2.2.2 m (by omega), ho.2.2.2.2.2.2 m (by omega), Int.zero_mul, Int.zero_mul]; rfl
  have := loop _ (min la lb) rfl (by omega) (by omega)
  rw [z0, z1, z2] at this
  exact this
theorem t_isMoved {d : Nat} {h : Hp} {a ra b rb : Nat} {la ha ta lb hb tb by0 : Int} {Wa Wb : Int → Int} {Q : Nat → Option Value → Hp → Prop} (hv : rowV h a ra la ha ta Wa) (ho : rowV h b rb lb hb tb Wb) (hby : -2000 ≤ by0 ∧ by0 ≤ 2000) (hWa : ∀ m, i64 (Wa m)) (hWb : ∀ m, i64 (Wb m))
    (hq0 : ¬ (ha + by0 = hb ∧ ∀ n, la ≤ n → n ≤ ha → Wa n = Wb (n + by0)) → Q 0 (some (.int 0)) h) (hq1 : (ha + by0 = hb ∧ ∀ n, la ≤ n → n ≤ ha → Wa n = Wb (n + by0)) → Q 0 (some (.int 1)) h) : PR (d + 1) m_Row_isMoved [.ref a, .ref b, .int (iI by0)] h Q := by
  have hra := hv.1.2.2.2.2.2.2.2
  have hrb := ho.1.2.2.2.2.2.2.2
  have va5 := hv.2.2.2.2.1
  have vb5 := ho.2.2.2.2.1
  show PW (d + 1) 86 0 [some (.ref a), some (.ref b), some (.int (iI by0)), none] [] h Q
  refine vs_ok 7 ?_
  rw [show ((gRes 86).drop 0).take 7 = [.aload 0, .getfield 6030, .iload 2, .iadd, .aload 1, .getfield 6030, .if_icmp .eq 9] from rfl]
  simp only [vs_iadd, vs_if_icmp, vs_getfield, vs_aload0, vs_aload1, vs_iload2, vs_nil, gv_0, gv_1, gv_2, gv_3, pv_0, pv_1, va_rf_s, Nat.reduceDiv, Nat.reduceMod, Nat.reduceAdd, Nat.reduceMul, Int.reduceToNat, true_and, and_true, and_self, cP_eq, cP_ne, cP_lt, cP_ge, cP_gt, cP_le, eL_i, eL_l, eL_r, eL_n, Option.toList_none, Option.toList_some, List.nil_append, List.cons_append, hv.1.1, hv.1.2.1, ho.1.1, ho.1.2.1, hv.2.2.1, ho.2.2.1, iI_add]
  rw [iI_eq (by constructor <;> omega) (by constructor <;> omega)]
  refine ⟨fun c0 => ?_, fun c0 => ?_⟩
  rotate_left
  · refine vs_ok 2 ?_
    rw [show ((gRes 86).drop 7).take 2 = [.iconst 0, .ireturn] from rfl]
    simp only [vs_iconst, vs_ireturn, vs_nil, gv_0, gv_1, gv_2, gv_3, pv_0, pv_1, va_rf_s, Nat.reduceDiv, Nat.reduceMod, Nat.reduceAdd, Nat.reduceMul, Int.reduceToNat, true_and, and_true, and_self, cP_eq, cP_ne, cP_lt, cP_ge, cP_gt, cP_le, eL_i, eL_l, eL_r, eL_n, Option.toList_none, Option.toList_some, List.nil_append, List.cons_append]
    exact ⟨Or.inr ⟨by decide, Or.inl rfl⟩, hq0 (fun z => c0 z.1)⟩
  refine vs_ok 3 ?_
  rw [show ((gRes 86).drop 9).take 3 = [.aload 0, .getfield 6020, .istore 3] from rfl]
  simp only [vs_getfield, vs_aload0, vs_istore3n, vs_istore3i, vs_istore3r, vs_istore3l, vs_nil, gv_0, gv_1, gv_2, gv_3, pv_0, pv_1, va_rf_s, Nat.reduceDiv, Nat.reduceMod, Nat.reduceAdd, Nat.reduceMul, Int.reduceToNat, true_and, and_true, and_self, cP_eq, cP_ne, cP_lt, cP_ge, cP_gt, cP_le, eL_i, eL_l, eL_r, eL_n, Option.toList_none, Option.toList_some, List.nil_append, List.cons_append, hv.1.1, hv.1.2.1, hv.2.1]
  have loop : ∀ (k : Nat) (n : Int), k = (ha + 1 - n).toNat → la ≤ n → n ≤ ha + 1 → (∀ m, la ≤ m → m < n → Wa m = Wb (m + by0)) → PW (d + 1) 86 12 [some (.ref a), some (.ref b), some (.int (iI by0)), some (.int (iI n))] [] h Q := by
    intro k
    induction k with
    | zero =>
      intro n hk hn1 hn2 hw
      refine vs_ok 4 ?_
      rw [show ((gRes 86).drop 12).take 4 = [.iload 3, .aload 0, .getfield 6030, .if_icmp .gt 30] from rfl]
      simp only [vs_if_icmp, vs_getfield, vs_aload0, vs_iload3, vs_nil, gv_0, gv_1, gv_2, gv_3, pv_0, pv_1, va_rf_s, Nat.reduceDiv, Nat.reduceMod, Nat.reduceAdd, Nat.reduceMul, Int.reduceToNat, true_and, and_true, and_self, cP_eq, cP_ne, cP_lt, cP_ge, cP_gt, cP_le, eL_i, eL_l, eL_r, eL_n, Option.toList_none, Option.toList_some, List.nil_append, List.cons_append, hv.1.1, hv.1.2.1, hv.2.2.1]
      rw [iI_lt (by constructor <;> omega) (by constructor <;> omega)]
      refine ⟨fun _ => ?_, fun c => absurd (show ha < n by omega) c⟩
      refine vs_ok 2 ?_
      rw [show ((gRes 86).drop 30).take 2 = [.iconst 1, .ireturn] from rfl]
      simp only [vs_iconst, vs_ireturn, vs_nil, gv_0, gv_1, gv_2, gv_3, pv_0, pv_1, va_rf_s, Nat.reduceDiv, Nat.reduceMod, Nat.reduceAdd, Nat.reduceMul, Int.reduceToNat, true_and, and_true, and_self, cP_eq, cP_ne, cP_lt, cP_ge, cP_gt, cP_le, eL_i, eL_l, eL_r, eL_n, Option.toList_none, Option.toList_some, List.nil_append, List.cons_append]
      exact ⟨Or.inr ⟨by decide, Or.inr rfl⟩, hq1 ⟨c0, fun m m1 m2 => hw m m1 (by omega)⟩⟩
    | succ k ih =>
      intro n hk hn1 hn2 hw
      refine vs_ok 4 ?_
      rw [show ((gRes 86).drop 12).take 4 = [.iload 3, .aload 0, .getfield 6030, .if_icmp .gt 30] from rfl]
      simp only [vs_if_icmp, vs_getfield, vs_aload0, vs_iload3, vs_nil, gv_0, gv_1, gv_2, gv_3, pv_0, pv_1, va_rf_s, Nat.reduceDiv, Nat.reduceMod, Nat.reduceAdd, Nat.reduceMul, Int.reduceToNat, true_and, and_true, and_self, cP_eq, cP_ne, cP_lt, cP_ge, cP_gt, cP_le, eL_i, eL_l, eL_r, eL_n, Option.toList_none, Option.toList_some, List.nil_append, List.cons_append, hv.1.1, hv.1.2.1, hv.2.2.1]
      rw [iI_lt (by constructor <;> omega) (by constructor <;> omega)]
      refine ⟨fun c => absurd c (by omega), fun _ => ?_⟩
      refine vs_ok 3 ?_
      rw [show ((gRes 86).drop 16).take 3 = [.aload 0, .iload 3, .invokevirtual 66] from rfl]
      simp only [vs_iv, vs_aload0, vs_iload3, vs_nil, gv_0, gv_1, gv_2, gv_3, pv_0, pv_1, va_rf_s, Nat.reduceDiv, Nat.reduceMod, Nat.reduceAdd, Nat.reduceMul, Int.reduceToNat, true_and, and_true, and_self, cP_eq, cP_ne, cP_lt, cP_ge, cP_gt, cP_le, eL_i, eL_l, eL_r, eL_n, Option.toList_none, Option.toList_some, List.nil_append, List.cons_append]
      refine PW.iv rfl rfl rfl hv.1.1 hv.1.2.1 (le_b rfl) (le_b rfl) ?_
      refine t_atV hv ⟨by omega, by omega⟩ ⟨rfl, ⟨rfl, rfl⟩, ?_⟩
      refine vs_ok 5 ?_
      rw [show ((gRes 86).drop 19).take 5 = [.aload 1, .iload 3, .iload 2, .iadd, .invokevirtual 66] from rfl]
      simp only [vs_iadd, vs_iv, vs_aload1, vs_iload2, vs_iload3, vs_nil, gv_0, gv_1, gv_2, gv_3, pv_0, pv_1, va_rf_s, Nat.reduceDiv, Nat.reduceMod, Nat.reduceAdd, Nat.reduceMul, Int.reduceToNat, true_and, and_true, and_self, cP_eq, cP_ne, cP_lt, cP_ge, cP_gt, cP_le, eL_i, eL_l, eL_r, eL_n, Option.toList_none, Option.toList_some, List.nil_append, List.cons_append, iI_add]
      refine PW.iv rfl rfl rfl ho.1.1 ho.1.2.1 (le_b rfl) (le_b rfl) ?_
      refine t_atV ho ⟨by omega, by omega⟩ ⟨rfl, ⟨rfl, rfl⟩, ?_⟩
      refine vs_ok 2 ?_
      rw [show ((gRes 86).drop 24).take 2 = [.lcmp, .ifCond .eq 28] from rfl]
      simp only [vs_lcmp, vs_ifCond, vs_nil, gv_0, gv_1, gv_2, gv_3, pv_0, pv_1, va_rf_s, Nat.reduceDiv, Nat.reduceMod, Nat.reduceAdd, Nat.reduceMul, Int.reduceToNat, true_and, and_true, and_self, cP_eq, cP_ne, cP_lt, cP_ge, cP_gt, cP_le, eL_i, eL_l, eL_r, eL_n, Option.toList_none, Option.toList_some, List.nil_append, List.cons_append]
      have hc : lg_cmp (lI (Wa n)) (lI (Wb (n + by0))) = 0 ↔ Wa n = Wb (n + by0) := by
        unfold lg_cmp
        have e1 : lI (Wa n) > lI (Wb (n + by0)) ↔ Wb (n + by0) < Wa n := lI_lt (hWb _) (hWa _)
        have e2 : lI (Wa n) = lI (Wb (n + by0)) ↔ Wa n = Wb (n + by0) := lI_eq (hWa _) (hWb _)
        by_cases c1 : Wb (n + by0) < Wa n
        · rw [if_pos (e1.mpr c1)]
          exact ⟨fun z => absurd z (by decide), fun z => by omega⟩
        · rw [if_neg (fun z => c1 (e1.mp z))]
          by_cases c2 : Wa n = Wb (n + by0)
          · rw [if_pos (e2.mpr c2)]
            exact ⟨fun _ => c2, fun _ => rfl⟩
          · rw [if_neg (fun z => c2 (e2.mp z))]
            exact ⟨fun z => absurd z (by decide), fun z => absurd z c2⟩
      rw [hc]
      refine ⟨fun c => ?_, fun c => ?_⟩
      · refine vs_ok 2 ?_
        rw [show ((gRes 86).drop 28).take 2 = [.iinc 3 1, .goto 12] from rfl]
        simp only [vs_goto, vs_iinc3n, vs_iinc3i, vs_iinc3r, vs_iinc3l, vs_nil, gv_0, gv_1, gv_2, gv_3, pv_0, pv_1, va_rf_s, Nat.reduceDiv, Nat.reduceMod, Nat.reduceAdd, Nat.reduceMul, Int.reduceToNat, true_and, and_true, and_self, cP_eq, cP_ne, cP_lt, cP_ge, cP_gt, cP_le, eL_i, eL_l, eL_r, eL_n, Option.toList_none, Option.toList_some, List.nil_append, List.cons_append, iI_add]
        refine ih (n + 1) (by omega) (by omega) (by omega) fun m m1 m2 => ?_
        by_cases hm : m = n
        · rw [hm]
          exact c
        · exact hw m m1 (by omega)
      · refine vs_ok 2 ?_
        rw [show ((gRes 86).drop 26).take 2 = [.iconst 0, .ireturn] from rfl]
        simp only [vs_iconst, vs_ireturn, vs_nil, gv_0, gv_1, gv_2, gv_3, pv_0, pv_1, va_rf_s, Nat.reduceDiv, Nat.reduceMod, Nat.reduceAdd, Nat.reduceMul, Int.reduceToNat, true_and, and_true, and_self, cP_eq, cP_ne, cP_lt, cP_ge, cP_gt, cP_le, eL_i, eL_l, eL_r, eL_n, Option.toList_none, Option.toList_some, List.nil_append, List.cons_append]
        exact ⟨Or.inr ⟨by decide, Or.inl rfl⟩, hq0 (fun z => c (z.2 n (by omega) (by omega)))⟩
  exact loop _ la rfl (by omega) (by omega) (fun m m1 m2 => by omega)
