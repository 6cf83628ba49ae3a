/-! Reader: small methods -/
def rdS (h : Hp) (rd tx : Nat) (len : Int) (B : Nat → Int) (fo ki va pl : Int) : Prop := zK h rd = 5 ∧ rd < zN h ∧ zR h rd 0 = some tx ∧ (zK h tx = 14 ∧ tx < zN h ∧ zL h tx = 540 ∧ (∀ i, i < 540 → zI h tx i = iI (B i)) ∧ ∀ i, 0 ≤ B i ∧ B i ≤ 255) ∧ zI h rd 1 = iI len ∧ (0 ≤ len ∧ len ≤ 540) ∧ zI h rd 2 = iI fo ∧ zI h rd 3 = iI ki ∧ zI h rd 4 = iI va ∧ zI h rd 5 = iI pl
/-- byte i of the text -/
def byV (B : Nat → Int) (len i : Int) : Int := if 0 ≤ i ∧ i < len then B i.toNat else 0
def isLe (c : Int) : Prop := 97 ≤ c ∧ c ≤ 122
def isDi (c : Int) : Prop := 48 ≤ c ∧ c ≤ 57
def isTs (c : Int) : Prop := c = 40 ∨ c = 41 ∨ c = 43 ∨ c = 44 ∨ c = 45 ∨ c = 46 ∨ c = 59 ∨ c = 61
theorem byV_b {B : Nat → Int} {len i : Int} (hB : ∀ i, 0 ≤ B i ∧ B i ≤ 255) : 0 ≤ byV B len i ∧ byV B len i ≤ 255 := by
  unfold byV
  split
  · exact hB _
  · omega
theorem t_isLetter {d : Nat} {h : Hp} {c : Int} {Q : Nat → Option Value → Hp → Prop} (hc : i32 c) (h1 : isLe c → Q 0 (some (.int 1)) h) (h0 : ¬ isLe c → Q 0 (some (.int 0)) h) : PR d m_Reader_isLetter [.int (iI c)] h Q := by
  unfold isLe at h1 h0
  show PW d 62 0 [some (.int (iI c))] [] h Q
  have no : ¬ (97 ≤ c ∧ c ≤ 122) → PW d 62 8 [some (.int (iI c))] [] h Q := fun z => by
    refine vs_ok 2 ?_
    rw [show ((gRes 62).drop 8).take 2 = [.iconst 0, .ireturn] from rfl]
    simp only [vs_iconst, vs_ireturn, vs_nil, gv_0, gv_1, gv_2, gv_3, pv_0, pv_1, va_rf_s, Nat.reduceDiv, Nat.reduceMod, Nat.reduceAdd, Nat.reduceMul, Int.reduceToNat, true_and, and_true, and_self, cP_eq, cP_ne, cP_lt, cP_ge, cP_gt, cP_le, eL_i, eL_l, eL_r, eL_n, Option.toList_none, Option.toList_some, List.nil_append, List.cons_append]
    exact ⟨Or.inr ⟨by decide, Or.inl rfl⟩, h0 z⟩
  refine vs_ok 3 ?_
  rw [show ((gRes 62).drop 0).take 3 = [.iload 0, .iconst 97, .if_icmp .lt 8] from rfl]
  simp only [vs_iconst, vs_if_icmp, vs_iload0, vs_nil, gv_0, gv_1, gv_2, gv_3, pv_0, pv_1, va_rf_s, Nat.reduceDiv, Nat.reduceMod, Nat.reduceAdd, Nat.reduceMul, Int.reduceToNat, true_and, and_true, and_self, cP_eq, cP_ne, cP_lt, cP_ge, cP_gt, cP_le, eL_i, eL_l, eL_r, eL_n, Option.toList_none, Option.toList_some, List.nil_append, List.cons_append]
  rw [show Int32.ofInt 97 = iI 97 from rfl, iI_lt hc (by constructor <;> omega)]
  refine ⟨fun z => no (by omega), fun z => ?_⟩
  refine vs_ok 3 ?_
  rw [show ((gRes 62).drop 3).take 3 = [.iload 0, .iconst 122, .if_icmp .gt 8] from rfl]
  simp only [vs_iconst, vs_if_icmp, vs_iload0, vs_nil, gv_0, gv_1, gv_2, gv_3, pv_0, pv_1, va_rf_s, Nat.reduceDiv, Nat.reduceMod, Nat.reduceAdd, Nat.reduceMul, Int.reduceToNat, true_and, and_true, and_self, cP_eq, cP_ne, cP_lt, cP_ge, cP_gt, cP_le, eL_i, eL_l, eL_r, eL_n, Option.toList_none, Option.toList_some, List.nil_append, List.cons_append]
  rw [show Int32.ofInt 122 = iI 122 from rfl, iI_lt (by constructor <;> omega) hc]
  refine ⟨fun z => no (by omega), fun z => ?_⟩
  refine vs_ok 2 ?_
  rw [show ((gRes 62).drop 6).take 2 = [.iconst 1, .goto 9] from rfl]
  simp only [vs_iconst, vs_goto, vs_nil, gv_0, gv_1, gv_2, gv_3, pv_0, pv_1, va_rf_s, Nat.reduceDiv, Nat.reduceMod, Nat.reduceAdd, Nat.reduceMul, Int.reduceToNat, true_and, and_true, and_self, cP_eq, cP_ne, cP_lt, cP_ge, cP_gt, cP_le, eL_i, eL_l, eL_r, eL_n, Option.toList_none, Option.toList_some, List.nil_append, List.cons_append]
  refine vs_ok 1 ?_
  rw [show ((gRes 62).drop 9).take 1 = [.ireturn] from rfl]
  simp only [vs_ireturn, vs_nil, gv_0, gv_1, gv_2, gv_3, pv_0, pv_1, va_rf_s, Nat.reduceDiv, Nat.reduceMod, Nat.reduceAdd, Nat.reduceMul, Int.reduceToNat, true_and, and_true, and_self, cP_eq, cP_ne, cP_lt, cP_ge, cP_gt, cP_le, eL_i, eL_l, eL_r, eL_n, Option.toList_none, Option.toList_some, List.nil_append, List.cons_append]
  exact ⟨Or.inr ⟨by decide, Or.inr rfl⟩, h1 (by omega)⟩
theorem t_isDigit {d : Nat} {h : Hp} {c : Int} {Q : Nat → Option Value → Hp → Prop} (hc : i32 c) (h1 : isDi c → Q 0 (some (.int 1)) h) (h0 : ¬ isDi c → Q 0 (some (.int 0)) h) : PR d m_Reader_isDigit [.int (iI c)] h Q := by
  unfold isDi at h1 h0
  show PW d 63 0 [some (.int (iI c))] [] h Q
  have no : ¬ (48 ≤ c ∧ c ≤ 57) → PW d 63 8 [some (.int (iI c))] [] h Q := fun z => by
    refine vs_ok 2 ?_
    rw [show ((gRes 63).drop 8).take 2 = [.iconst 0, .ireturn] from rfl]
    simp only [vs_iconst, vs_ireturn, vs_nil, gv_0, gv_1, gv_2, gv_3, pv_0, pv_1, va_rf_s, Nat.reduceDiv, Nat.reduceMod, Nat.reduceAdd, Nat.reduceMul, Int.reduceToNat, true_and, and_true, and_self, cP_eq, cP_ne, cP_lt, cP_ge, cP_gt, cP_le, eL_i, eL_l, eL_r, eL_n, Option.toList_none, Option.toList_some, List.nil_append, List.cons_append]
    exact ⟨Or.inr ⟨by decide, Or.inl rfl⟩, h0 z⟩
  refine vs_ok 3 ?_
  rw [show ((gRes 63).drop 0).take 3 = [.iload 0, .iconst 48, .if_icmp .lt 8] from rfl]
  simp only [vs_iconst, vs_if_icmp, vs_iload0, vs_nil, gv_0, gv_1, gv_2, gv_3, pv_0, pv_1, va_rf_s, Nat.reduceDiv, Nat.reduceMod, Nat.reduceAdd, Nat.reduceMul, Int.reduceToNat, true_and, and_true, and_self, cP_eq, cP_ne, cP_lt, cP_ge, cP_gt, cP_le, eL_i, eL_l, eL_r, eL_n, Option.toList_none, Option.toList_some, List.nil_append, List.cons_append]
  rw [show Int32.ofInt 48 = iI 48 from rfl, iI_lt hc (by constructor <;> omega)]
  refine ⟨fun z => no (by omega), fun z => ?_⟩
  refine vs_ok 3 ?_
  rw [show ((gRes 63).drop 3).take 3 = [.iload 0, .iconst 57, .if_icmp .gt 8] from rfl]
  simp only [vs_iconst, vs_if_icmp, vs_iload0, vs_nil, gv_0, gv_1, gv_2, gv_3, pv_0, pv_1, va_rf_s, Nat.reduceDiv, Nat.reduceMod, Nat.reduceAdd, Nat.reduceMul, Int.reduceToNat, true_and, and_true, and_self, cP_eq, cP_ne, cP_lt, cP_ge, cP_gt, cP_le, eL_i, eL_l, eL_r, eL_n, Option.toList_none, Option.toList_some, List.nil_append, List.cons_append]
  rw [show Int32.ofInt 57 = iI 57 from rfl, iI_lt (by constructor <;> omega) hc]
  refine ⟨fun z => no (by omega), fun z => ?_⟩
  refine vs_ok 2 ?_
  rw [show ((gRes 63).drop 6).take 2 = [.iconst 1, .goto 9] from rfl]
  simp only [vs_iconst, vs_goto, vs_nil, gv_0, gv_1, gv_2, gv_3, pv_0, pv_1, va_rf_s, Nat.reduceDiv, Nat.reduceMod, Nat.reduceAdd, Nat.reduceMul, Int.reduceToNat, true_and, and_true, and_self, cP_eq, cP_ne, cP_lt, cP_ge, cP_gt, cP_le, eL_i, eL_l, eL_r, eL_n, Option.toList_none, Option.toList_some, List.nil_append, List.cons_append]
  refine vs_ok 1 ?_
  rw [show ((gRes 63).drop 9).take 1 = [.ireturn] from rfl]
  simp only [vs_ireturn, vs_nil, gv_0, gv_1, gv_2, gv_3, pv_0, pv_1, va_rf_s, Nat.reduceDiv, Nat.reduceMod, Nat.reduceAdd, Nat.reduceMul, Int.reduceToNat, true_and, and_true, and_self, cP_eq, cP_ne, cP_lt, cP_ge, cP_gt, cP_le, eL_i, eL_l, eL_r, eL_n, Option.toList_none, Option.toList_some, List.nil_append, List.cons_append]
  exact ⟨Or.inr ⟨by decide, Or.inr rfl⟩, h1 (by omega)⟩
theorem t_isTokenSign {d : Nat} {h : Hp} {c : Int} {Q : Nat → Option Value → Hp → Prop} (hc : i32 c) (h1 : isTs c → Q 0 (some (.int 1)) h) (h0 : ¬ isTs c → Q 0 (some (.int 0)) h) : PR d m_Reader_isTokenSign [.int (iI c)] h Q := by
  unfold isTs at h1 h0
  show PW d 64 0 [some (.int (iI c))] [] h Q
  have yes : (c = 40 ∨ c = 41 ∨ c = 43 ∨ c = 44 ∨ c = 45 ∨ c = 46 ∨ c = 59 ∨ c = 61) → PW d 64 2 [some (.int (iI c))] [] h Q := fun z => by
    refine vs_ok 2 ?_
    rw [show ((gRes 64).drop 2).take 2 = [.iconst 1, .ireturn] from rfl]
    simp only [vs_iconst, vs_ireturn, vs_nil, gv_0, gv_1, gv_2, gv_3, pv_0, pv_1, va_rf_s, Nat.reduceDiv, Nat.reduceMod, Nat.reduceAdd, Nat.reduceMul, Int.reduceToNat, true_and, and_true, and_self, cP_eq, cP_ne, cP_lt, cP_ge, cP_gt, cP_le, eL_i, eL_l, eL_r, eL_n, Option.toList_none, Option.toList_some, List.nil_append, List.cons_append]
    exact ⟨Or.inr ⟨by decide, Or.inr rfl⟩, h1 z⟩
  have no : ¬ (c = 40 ∨ c = 41 ∨ c = 43 ∨ c = 44 ∨ c = 45 ∨ c = 46 ∨ c = 59 ∨ c = 61) → PW d 64 4 [some (.int (iI c))] [] h Q := fun z => by
    refine vs_ok 2 ?_
    rw [show ((gRes 64).drop 4).take 2 = [.iconst 0, .ireturn] from rfl]
    simp only [vs_iconst, vs_ireturn, vs_nil, gv_0, gv_1, gv_2, gv_3, pv_0, pv_1, va_rf_s, Nat.reduceDiv, Nat.reduceMod, Nat.reduceAdd, Nat.reduceMul, Int.reduceToNat, true_and, and_true, and_self, cP_eq, cP_ne, cP_lt, cP_ge, cP_gt, cP_le, eL_i, eL_l, eL_r, eL_n, Option.toList_none, Option.toList_some, List.nil_append, List.cons_append]
    exact ⟨Or.inr ⟨by decide, Or.inl rfl⟩, h0 z⟩
  refine vs_ok 2 ?_
  rw [show ((gRes 64).drop 0).take 2 = [.iload 0, .tableswitch 4 40 61 #[2, 2, 4, 2, 2, 2, 2, 4, 4, 4, 4, 4, 4, 4, 4, 4, 4, 4, 4, 2, 4, 2]] from rfl]
  simp only [vs_iload0, vs_nil, gv_0, gv_1, gv_2, gv_3, pv_0, pv_1, va_rf_s, vs_tableswitch, Nat.reduceDiv, Nat.reduceMod, Nat.reduceAdd, Nat.reduceMul, Int.reduceToNat, true_and, and_true, and_self, cP_eq, cP_ne, cP_lt, cP_ge, cP_gt, cP_le, eL_i, eL_l, eL_r, eL_n, Option.toList_none, Option.toList_some, List.nil_append, List.cons_append]
  by_cases hr : 40 ≤ c ∧ c ≤ 61
  · have hcs : c = 40 ∨ c = 41 ∨ c = 42 ∨ c = 43 ∨ c = 44 ∨ c = 45 ∨ c = 46 ∨ c = 47 ∨ c = 48 ∨ c = 49 ∨ c = 50 ∨ c = 51 ∨ c = 52 ∨ c = 53 ∨ c = 54 ∨ c = 55 ∨ c = 56 ∨ c = 57 ∨ c = 58 ∨ c = 59 ∨ c = 60 ∨ c = 61 := by omega
    rcases hcs with rfl | rfl | rfl | rfl | rfl | rfl | rfl | rfl | rfl | rfl | rfl | rfl | rfl | rfl | rfl | rfl | rfl | rfl | rfl | rfl | rfl | rfl
    all_goals first | exact yes (by omega) | exact no (by omega)
  · have : swt 4 40 61 #[2, 2, 4, 2, 2, 2, 2, 4, 4, 4, 4, 4, 4, 4, 4, 4, 4, 4, 4, 2, 4, 2] (iI c) = 4 := by
      unfold swt
      rw [iI_toInt hc, if_pos (by omega)]
      rfl
    rw [this]
    exact no (by omega)
theorem t_byteAt {d : Nat} {h : Hp} {rd tx : Nat} {len fo ki va pl i : Int} {B : Nat → Int} {Q : Nat → Option Value → Hp → Prop} (hr : rdS h rd tx len B fo ki va pl) (hi : i32 i) (hq : Q 0 (some (.int (iI (byV B len i)))) h) : PR d m_Reader_byteAt [.ref rd, .int (iI i)] h Q := by
  obtain ⟨h1, h2, h3, ⟨a1, a2, a3, a4, a5⟩, h5, h6, -⟩ := hr
  unfold byV at hq
  show PW d 59 0 [some (.ref rd), some (.int (iI i))] [] h Q
  have no : ¬ (0 ≤ i ∧ i < len) → PW d 59 11 [some (.ref rd), some (.int (iI i))] [] h Q := fun c => by
    refine vs_ok 2 ?_
    rw [show ((gRes 59).drop 11).take 2 = [.iconst 0, .goto 17] from rfl]
    simp only [vs_iconst, vs_goto, vs_nil, gv_0, gv_1, gv_2, gv_3, pv_0, pv_1, va_rf_s, Nat.reduceDiv, Nat.reduceMod, Nat.reduceAdd, Nat.reduceMul, Int.reduceToNat, true_and, and_true, and_self, cP_eq, cP_ne, cP_lt, cP_ge, cP_gt, cP_le, eL_i, eL_l, eL_r, eL_n, Option.toList_none, Option.toList_some, List.nil_append, List.cons_append]
    refine vs_ok 1 ?_
    rw [show ((gRes 59).drop 17).take 1 = [.ireturn] from rfl]
    simp only [vs_ireturn, vs_nil, gv_0, gv_1, gv_2, gv_3, pv_0, pv_1, va_rf_s, Nat.reduceDiv, Nat.reduceMod, Nat.reduceAdd, Nat.reduceMul, Int.reduceToNat, true_and, and_true, and_self, cP_eq, cP_ne, cP_lt, cP_ge, cP_gt, cP_le, eL_i, eL_l, eL_r, eL_n, Option.toList_none, Option.toList_some, List.nil_append, List.cons_append]
    rw [if_neg c] at hq
    exact ⟨Or.inl (by decide), hq⟩
  refine vs_ok 2 ?_
  rw [show ((gRes 59).drop 0).take 2 = [.iload 1, .ifCond .lt 11] from rfl]
  simp only [vs_ifCond, vs_iload1, vs_nil, gv_0, gv_1, gv_2, gv_3, pv_0, pv_1, va_rf_s, Nat.reduceDiv, Nat.reduceMod, Nat.reduceAdd, Nat.reduceMul, Int.reduceToNat, true_and, and_true, and_self, cP_eq, cP_ne, cP_lt, cP_ge, cP_gt, cP_le, eL_i, eL_l, eL_r, eL_n, Option.toList_none, Option.toList_some, List.nil_append, List.cons_append]
  rw [zt0 hi]
  refine ⟨fun c => no (by omega), fun c => ?_⟩
  refine vs_ok 4 ?_
  rw [show ((gRes 59).drop 2).take 4 = [.iload 1, .aload 0, .getfield 5010, .if_icmp .ge 11] from rfl]
  simp only [vs_if_icmp, vs_getfield, vs_aload0, vs_iload1, vs_nil, gv_0, gv_1, gv_2, gv_3, pv_0, pv_1, va_rf_s, Nat.reduceDiv, Nat.reduceMod, Nat.reduceAdd, Nat.reduceMul, Int.reduceToNat, true_and, and_true, and_self, cP_eq, cP_ne, cP_lt, cP_ge, cP_gt, cP_le, eL_i, eL_l, eL_r, eL_n, Option.toList_none, Option.toList_some, List.nil_append, List.cons_append, h1, h2, h5]
  rw [iI_le (by constructor <;> omega) hi]
  refine ⟨fun c => no (by omega), fun c2 => ?_⟩
  refine vs_ok 5 ?_
  rw [show ((gRes 59).drop 6).take 5 = [.iload 1, .aload 0, .getfield 5002, .arraylength, .if_icmp .lt 13] from rfl]
  simp only [vs_if_icmp, vs_getfield, vs_arraylength, vs_aload0, vs_iload1, vs_nil, gv_0, gv_1, gv_2, gv_3, pv_0, pv_1, va_rf_s, Nat.reduceDiv, Nat.reduceMod, Nat.reduceAdd, Nat.reduceMul, Int.reduceToNat, true_and, and_true, and_self, cP_eq, cP_ne, cP_lt, cP_ge, cP_gt, cP_le, eL_i, eL_l, eL_r, eL_n, Option.toList_none, Option.toList_some, List.nil_append, List.cons_append, h1, h2, h3, a1, a2, a3, or_true, true_or]
  rw [show Int32.ofNat 540 = iI 540 from rfl, iI_lt hi (by constructor <;> omega)]
  refine ⟨fun c3 => ?_, fun c3 => absurd (show i < 540 by omega) c3⟩
  refine vs_ok 5 ?_
  rw [show ((gRes 59).drop 13).take 5 = [.aload 0, .getfield 5002, .iload 1, .iaload, .ireturn] from rfl]
  simp only [vs_getfield, vs_iaload, vs_ireturn, vs_aload0, vs_iload1, vs_nil, gv_0, gv_1, gv_2, gv_3, pv_0, pv_1, va_rf_s, Nat.reduceDiv, Nat.reduceMod, Nat.reduceAdd, Nat.reduceMul, Int.reduceToNat, true_and, and_true, and_self, cP_eq, cP_ne, cP_lt, cP_ge, cP_gt, cP_le, eL_i, eL_l, eL_r, eL_n, Option.toList_none, Option.toList_some, List.nil_append, List.cons_append, h1, h2, h3, a1, a2, a3]
  refine ⟨(inB_iI hi).mpr ⟨by omega, by omega⟩, Or.inl (by decide), ?_⟩
  rw [iI_nat hi (by omega), a4 _ (by omega)]
  rw [if_pos (by omega)] at hq
  exact hq
theorem t_isSign {d : Nat} {h : Hp} {rd tx : Nat} {len fo ki va pl s0 : Int} {B : Nat → Int} {Q : Nat → Option Value → Hp → Prop} (hr : rdS h rd tx len B fo ki va pl) (hk : i32 ki) (hv : i32 va) (hs : i32 s0) (h1 : ki = 4 ∧ va = s0 → Q 0 (some (.int 1)) h) (h0 : ¬ (ki = 4 ∧ va = s0) → Q 0 (some (.int 0)) h) : PR d m_Reader_isSign [.ref rd, .int (iI s0)] h Q := by
  obtain ⟨r1, r2, -, -, -, -, -, r8, r9, -⟩ := hr
  show PW d 57 0 [some (.ref rd), some (.int (iI s0))] [] h Q
  have no : ¬ (ki = 4 ∧ va = s0) → PW d 57 10 [some (.ref rd), some (.int (iI s0))] [] h Q := fun z => by
    refine vs_ok 2 ?_
    rw [show ((gRes 57).drop 10).take 2 = [.iconst 0, .ireturn] from rfl]
    simp only [vs_iconst, vs_ireturn, vs_nil, gv_0, gv_1, gv_2, gv_3, pv_0, pv_1, va_rf_s, Nat.reduceDiv, Nat.reduceMod, Nat.reduceAdd, Nat.reduceMul, Int.reduceToNat, true_and, and_true, and_self, cP_eq, cP_ne, cP_lt, cP_ge, cP_gt, cP_le, eL_i, eL_l, eL_r, eL_n, Option.toList_none, Option.toList_some, List.nil_append, List.cons_append]
    exact ⟨Or.inr ⟨by decide, Or.inl rfl⟩, h0 z⟩
  refine vs_ok 4 ?_
  rw [show ((gRes 57).drop 0).take 4 = [.aload 0, .getfield 5030, .iconst 4, .if_icmp .ne 10] from rfl]
  simp only [vs_iconst, vs_if_icmp, vs_getfield, vs_aload0, vs_nil, gv_0, gv_1, gv_2, gv_3, pv_0, pv_1, va_rf_s, Nat.reduceDiv, Nat.reduceMod, Nat.reduceAdd, Nat.reduceMul, Int.reduceToNat, true_and, and_true, and_self, cP_eq, cP_ne, cP_lt, cP_ge, cP_gt, cP_le, eL_i, eL_l, eL_r, eL_n, Option.toList_none, Option.toList_some, List.nil_append, List.cons_append, r1, r2, r8]
  rw [show Int32.ofInt 4 = iI 4 from rfl, iI_eq hk (by constructor <;> omega)]
  refine ⟨fun z => no (fun w => z w.1), fun z => ?_⟩
  refine vs_ok 4 ?_
  rw [show ((gRes 57).drop 4).take 4 = [.aload 0, .getfield 5040, .iload 1, .if_icmp .ne 10] from rfl]
  simp only [vs_if_icmp, vs_getfield, vs_aload0, vs_iload1, vs_nil, gv_0, gv_1, gv_2, gv_3, pv_0, pv_1, va_rf_s, Nat.reduceDiv, Nat.reduceMod, Nat.reduceAdd, Nat.reduceMul, Int.reduceToNat, true_and, and_true, and_self, cP_eq, cP_ne, cP_lt, cP_ge, cP_gt, cP_le, eL_i, eL_l, eL_r, eL_n, Option.toList_none, Option.toList_some, List.nil_append, List.cons_append, r1, r2, r9]
  rw [iI_eq hv hs]
  refine ⟨fun z => no (fun w => z w.2), fun z2 => ?_⟩
  refine vs_ok 2 ?_
  rw [show ((gRes 57).drop 8).take 2 = [.iconst 1, .goto 11] from rfl]
  simp only [vs_iconst, vs_goto, vs_nil, gv_0, gv_1, gv_2, gv_3, pv_0, pv_1, va_rf_s, Nat.reduceDiv, Nat.reduceMod, Nat.reduceAdd, Nat.reduceMul, Int.reduceToNat, true_and, and_true, and_self, cP_eq, cP_ne, cP_lt, cP_ge, cP_gt, cP_le, eL_i, eL_l, eL_r, eL_n, Option.toList_none, Option.toList_some, List.nil_append, List.cons_append]
  refine vs_ok 1 ?_
  rw [show ((gRes 57).drop 11).take 1 = [.ireturn] from rfl]
  simp only [vs_ireturn, vs_nil, gv_0, gv_1, gv_2, gv_3, pv_0, pv_1, va_rf_s, Nat.reduceDiv, Nat.reduceMod, Nat.reduceAdd, Nat.reduceMul, Int.reduceToNat, true_and, and_true, and_self, cP_eq, cP_ne, cP_lt, cP_ge, cP_gt, cP_le, eL_i, eL_l, eL_r, eL_n, Option.toList_none, Option.toList_some, List.nil_append, List.cons_append]
  exact ⟨Or.inr ⟨by decide, Or.inr rfl⟩, h1 ⟨Classical.not_not.mp z, Classical.not_not.mp z2⟩⟩
theorem t_isWord {d : Nat} {h : Hp} {rd tx : Nat} {len fo ki va pl s0 : Int} {B : Nat → Int} {Q : Nat → Option Value → Hp → Prop} (hr : rdS h rd tx len B fo ki va pl) (hk : i32 ki) (hv : i32 va) (hs : i32 s0) (h1 : ki = 2 ∧ va = s0 → Q 0 (some (.int 1)) h) (h0 : ¬ (ki = 2 ∧ va = s0) → Q 0 (some (.int 0)) h) : PR d m_Reader_isWord [.ref rd, .int (iI s0)] h Q := by
  obtain ⟨r1, r2, -, -, -, -, -, r8, r9, -⟩ := hr
  show PW d 58 0 [some (.ref rd), some (.int (iI s0))] [] h Q
  have no : ¬ (ki = 2 ∧ va = s0) → PW d 58 10 [some (.ref rd), some (.int (iI s0))] [] h Q := fun z => by
    refine vs_ok 2 ?_
    rw [show ((gRes 58).drop 10).take 2 = [.iconst 0, .ireturn] from rfl]
    simp only [vs_iconst, vs_ireturn, vs_nil, gv_0, gv_1, gv_2, gv_3, pv_0, pv_1, va_rf_s, Nat.reduceDiv, Nat.reduceMod, Nat.reduceAdd, Nat.reduceMul, Int.reduceToNat, true_and, and_true, and_self, cP_eq, cP_ne, cP_lt, cP_ge, cP_gt, cP_le, eL_i, eL_l, eL_r, eL_n, Option.toList_none, Option.toList_some, List.nil_append, List.cons_append]
    exact ⟨Or.inr ⟨by decide, Or.inl rfl⟩, h0 z⟩
  refine vs_ok 4 ?_
  rw [show ((gRes 58).drop 0).take 4 = [.aload 0, .getfield 5030, .iconst 2, .if_icmp .ne 10] from rfl]
  simp only [vs_iconst, vs_if_icmp, vs_getfield, vs_aload0, vs_nil, gv_0, gv_1, gv_2, gv_3, pv_0, pv_1, va_rf_s, Nat.reduceDiv, Nat.reduceMod, Nat.reduceAdd, Nat.reduceMul, Int.reduceToNat, true_and, and_true, and_self, cP_eq, cP_ne, cP_lt, cP_ge, cP_gt, cP_le, eL_i, eL_l, eL_r, eL_n, Option.toList_none, Option.toList_some, List.nil_append, List.cons_append, r1, r2, r8]
  rw [show Int32.ofInt 2 = iI 2 from rfl, iI_eq hk (by constructor <;> omega)]
  refine ⟨fun z => no (fun w => z w.1), fun z => ?_⟩
  refine vs_ok 4 ?_
  rw [show ((gRes 58).drop 4).take 4 = [.aload 0, .getfield 5040, .iload 1, .if_icmp .ne 10] from rfl]
  simp only [vs_if_icmp, vs_getfield, vs_aload0, vs_iload1, vs_nil, gv_0, gv_1, gv_2, gv_3, pv_0, pv_1, va_rf_s, Nat.reduceDiv, Nat.reduceMod, Nat.reduceAdd, Nat.reduceMul, Int.reduceToNat, true_and, and_true, and_self, cP_eq, cP_ne, cP_lt, cP_ge, cP_gt, cP_le, eL_i, eL_l, eL_r, eL_n, Option.toList_none, Option.toList_some, List.nil_append, List.cons_append, r1, r2, r9]
  rw [iI_eq hv hs]
  refine ⟨fun z => no (fun w => z w.2), fun z2 => ?_⟩
  refine vs_ok 2 ?_
  rw [show ((gRes 58).drop 8).take 2 = [.iconst 1, .goto 11] from rfl]
  simp only [vs_iconst, vs_goto, vs_nil, gv_0, gv_1, gv_2, gv_3, pv_0, pv_1, va_rf_s, Nat.reduceDiv, Nat.reduceMod, Nat.reduceAdd, Nat.reduceMul, Int.reduceToNat, true_and, and_true, and_self, cP_eq, cP_ne, cP_lt, cP_ge, cP_gt, cP_le, eL_i, eL_l, eL_r, eL_n, Option.toList_none, Option.toList_some, List.nil_append, List.cons_append]
  refine vs_ok 1 ?_
  rw [show ((gRes 58).drop 11).take 1 = [.ireturn] from rfl]
  simp only [vs_ireturn, vs_nil, gv_0, gv_1, gv_2, gv_3, pv_0, pv_1, va_rf_s, Nat.reduceDiv, Nat.reduceMod, Nat.reduceAdd, Nat.reduceMul, Int.reduceToNat, true_and, and_true, and_self, cP_eq, cP_ne, cP_lt, cP_ge, cP_gt, cP_le, eL_i, eL_l, eL_r, eL_n, Option.toList_none, Option.toList_some, List.nil_append, List.cons_append]
  exact ⟨Or.inr ⟨by decide, Or.inr rfl⟩, h1 ⟨Classical.not_not.mp z, Classical.not_not.mp z2⟩⟩
theorem t_isTooLong {d : Nat} {h : Hp} {rd tx : Nat} {len fo ki va pl : Int} {B : Nat → Int} {Q : Nat → Option Value → Hp → Prop} (hr : rdS h rd tx len B fo ki va pl) (hq : Q 0 (some (.int (if 500 < len then 1 else 0))) h) : PR d m_Reader_isTooLong [.ref rd] h Q := by
  obtain ⟨r1, r2, -, -, r5, r6, -⟩ := hr
  show PW d 56 0 [some (.ref rd)] [] h Q
  refine vs_ok 4 ?_
  rw [show ((gRes 56).drop 0).take 4 = [.aload 0, .getfield 5010, .iconst 500, .if_icmp .le 6] from rfl]
  simp only [vs_iconst, vs_if_icmp, vs_getfield, vs_aload0, vs_nil, gv_0, gv_1, gv_2, gv_3, pv_0, pv_1, va_rf_s, Nat.reduceDiv, Nat.reduceMod, Nat.reduceAdd, Nat.reduceMul, Int.reduceToNat, true_and, and_true, and_self, cP_eq, cP_ne, cP_lt, cP_ge, cP_gt, cP_le, eL_i, eL_l, eL_r, eL_n, Option.toList_none, Option.toList_some, List.nil_append, List.cons_append, r1, r2, r5]
  rw [show Int32.ofInt 500 = iI 500 from rfl, iI_le (by constructor <;> omega) (by constructor <;> omega)]
  refine ⟨fun c => ?_, fun c => ?_⟩
  · refine vs_ok 2 ?_
    rw [show ((gRes 56).drop 6).take 2 = [.iconst 0, .ireturn] from rfl]
    simp only [vs_iconst, vs_ireturn, vs_nil, gv_0, gv_1, gv_2, gv_3, pv_0, pv_1, va_rf_s, Nat.reduceDiv, Nat.reduceMod, Nat.reduceAdd, Nat.reduceMul, Int.reduceToNat, true_and, and_true, and_self, cP_eq, cP_ne, cP_lt, cP_ge, cP_gt, cP_le, eL_i, eL_l, eL_r, eL_n, Option.toList_none, Option.toList_some, List.nil_append, List.cons_append]
    rw [if_neg (by omega)] at hq
    exact ⟨Or.inr ⟨by decide, Or.inl rfl⟩, hq⟩
  · refine vs_ok 2 ?_
    rw [show ((gRes 56).drop 4).take 2 = [.iconst 1, .goto 7] from rfl]
    simp only [vs_iconst, vs_goto, vs_nil, gv_0, gv_1, gv_2, gv_3, pv_0, pv_1, va_rf_s, Nat.reduceDiv, Nat.reduceMod, Nat.reduceAdd, Nat.reduceMul, Int.reduceToNat, true_and, and_true, and_self, cP_eq, cP_ne, cP_lt, cP_ge, cP_gt, cP_le, eL_i, eL_l, eL_r, eL_n, Option.toList_none, Option.toList_some, List.nil_append, List.cons_append]
    refine vs_ok 1 ?_
    rw [show ((gRes 56).drop 7).take 1 = [.ireturn] from rfl]
    simp only [vs_ireturn, vs_nil, gv_0, gv_1, gv_2, gv_3, pv_0, pv_1, va_rf_s, Nat.reduceDiv, Nat.reduceMod, Nat.reduceAdd, Nat.reduceMul, Int.reduceToNat, true_and, and_true, and_self, cP_eq, cP_ne, cP_lt, cP_ge, cP_gt, cP_le, eL_i, eL_l, eL_r, eL_n, Option.toList_none, Option.toList_some, List.nil_append, List.cons_append]
    rw [if_pos (by omega)] at hq
    exact ⟨Or.inr ⟨by decide, Or.inr rfl⟩, hq⟩
