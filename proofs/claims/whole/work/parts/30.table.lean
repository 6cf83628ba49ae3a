/-! Table: the object t, its rows' row t + 1, faces t + 2, words t + 3; row i is the object t + 4 + 2 i -/
def isTb (h : Hp) (t : Nat) (nm : Int) (F Wd : Nat → Int) : Prop := zK h t = 7 ∧ t + 27 < zN h ∧ (zR h t 0 = some (t + 1) ∧ zK h (t + 1) = 17 ∧ zL h (t + 1) = 12 ∧ ∀ i, i < 12 → zR h (t + 1) i = some (t + 4 + 2 * i)) ∧ (zR h t 1 = some (t + 2) ∧ zK h (t + 2) = 14 ∧ zL h (t + 2) = 12 ∧ ∀ i, i < 12 → zI h (t + 2) i = iI (F i)) ∧ (zR h t 2 = some (t + 3) ∧ zK h (t + 3) = 14 ∧ zL h (t + 3) = 12 ∧ ∀ i, i < 12 → zI h (t + 3) i = iI (Wd i)) ∧ zI h t 3 = iI nm ∧ 0 ≤ nm ∧ nm ≤ 12
theorem zt0 {x : Int} (hx : i32 x) : iI x < 0 ↔ x < 0 := iI_lt (y := 0) hx (by constructor <;> omega)
theorem zgt0 {x : Int} (hx : i32 x) : (0 : Int32) < iI x ↔ 0 < x := iI_lt (x := 0) (by constructor <;> omega) hx
theorem zle0 {x : Int} (hx : i32 x) : iI x ≤ 0 ↔ x ≤ 0 := iI_le (y := 0) hx (by constructor <;> omega)
theorem zge0 {x : Int} (hx : i32 x) : (0 : Int32) ≤ iI x ↔ 0 ≤ x := iI_le (x := 0) (by constructor <;> omega) hx
theorem zeq0 {x : Int} (hx : i32 x) : iI x = 0 ↔ x = 0 := iI_eq (y := 0) hx (by constructor <;> omega)
theorem of12 : Int32.ofNat 12 = iI 12 := rfl
theorem t_has {d : Nat} {h : Hp} {t : Nat} {nm k : Int} {F Wd : Nat → Int} {Q : Nat → Option Value → Hp → Prop} (ht : isTb h t nm F Wd) (hk : i32 k) (hq : Q 0 (some (.int (if 0 ≤ k ∧ k < nm then 1 else 0))) h) : PR d m_Table_has [.ref t, .int (iI k)] h Q := by
  obtain ⟨h1, h2, -, -, -, h6, h7, h8⟩ := ht
  have h2' : t < zN h := by omega
  show PW d 88 0 [some (.ref t), some (.int (iI k))] [] h Q
  have no : ¬ (0 ≤ k ∧ k < nm) → PW d 88 8 [some (.ref t), some (.int (iI k))] [] h Q := fun c => by
    refine vs_ok 2 ?_
    rw [show ((gRes 88).drop 8).take 2 = [.iconst 0, .ireturn] from rfl]
    simp only [vs_iconst, vs_ireturn, vs_nil, gv_0, gv_1, gv_2, gv_3, pv_0, pv_1, va_rf_s, Nat.reduceDiv, Nat.reduceMod, Nat.reduceAdd, Nat.reduceMul, Int.reduceToNat, true_and, and_true, and_self, cP_eq, cP_ne, cP_lt, cP_ge, cP_gt, cP_le, eL_i, eL_l, eL_r, eL_n, Option.toList_none, Option.toList_some, List.nil_append, List.cons_append]
    rw [if_neg c] at hq
    exact ⟨Or.inr ⟨by decide, Or.inl rfl⟩, hq⟩
  refine vs_ok 2 ?_
  rw [show ((gRes 88).drop 0).take 2 = [.iload 1, .ifCond .lt 8] from rfl]
  simp only [vs_ifCond, vs_iload1, vs_nil, gv_0, gv_1, gv_2, gv_3, pv_0, pv_1, va_rf_s, Nat.reduceDiv, Nat.reduceMod, Nat.reduceAdd, Nat.reduceMul, Int.reduceToNat, true_and, and_true, and_self, cP_eq, cP_ne, cP_lt, cP_ge, cP_gt, cP_le, eL_i, eL_l, eL_r, eL_n, Option.toList_none, Option.toList_some, List.nil_append, List.cons_append]
  rw [zt0 hk]
  refine ⟨fun c => no (by omega), fun c => ?_⟩
  refine vs_ok 4 ?_
  rw [show ((gRes 88).drop 2).take 4 = [.iload 1, .aload 0, .getfield 7030, .if_icmp .ge 8] from rfl]
  simp only [vs_if_icmp, vs_getfield, vs_aload0, vs_iload1, vs_nil, gv_0, gv_1, gv_2, gv_3, pv_0, pv_1, va_rf_s, Nat.reduceDiv, Nat.reduceMod, Nat.reduceAdd, Nat.reduceMul, Int.reduceToNat, true_and, and_true, and_self, cP_eq, cP_ne, cP_lt, cP_ge, cP_gt, cP_le, eL_i, eL_l, eL_r, eL_n, Option.toList_none, Option.toList_some, List.nil_append, List.cons_append, h1, h2', h6]
  rw [iI_le (by constructor <;> omega) hk]
  refine ⟨fun c => no (by omega), fun c2 => ?_⟩
  refine vs_ok 2 ?_
  rw [show ((gRes 88).drop 6).take 2 = [.iconst 1, .goto 9] from rfl]
  simp only [vs_iconst, vs_goto, vs_nil, gv_0, gv_1, gv_2, gv_3, pv_0, pv_1, va_rf_s, Nat.reduceDiv, Nat.reduceMod, Nat.reduceAdd, Nat.reduceMul, Int.reduceToNat, true_and, and_true, and_self, cP_eq, cP_ne, cP_lt, cP_ge, cP_gt, cP_le, eL_i, eL_l, eL_r, eL_n, Option.toList_none, Option.toList_some, List.nil_append, List.cons_append]
  refine vs_ok 1 ?_
  rw [show ((gRes 88).drop 9).take 1 = [.ireturn] from rfl]
  simp only [vs_ireturn, vs_nil, gv_0, gv_1, gv_2, gv_3, pv_0, pv_1, va_rf_s, Nat.reduceDiv, Nat.reduceMod, Nat.reduceAdd, Nat.reduceMul, Int.reduceToNat, true_and, and_true, and_self, cP_eq, cP_ne, cP_lt, cP_ge, cP_gt, cP_le, eL_i, eL_l, eL_r, eL_n, Option.toList_none, Option.toList_some, List.nil_append, List.cons_append]
  rw [if_pos (by omega)] at hq
  exact ⟨Or.inr ⟨by decide, Or.inr rfl⟩, hq⟩
theorem t_row {d : Nat} {h : Hp} {t : Nat} {nm k : Int} {F Wd : Nat → Int} {Q : Nat → Option Value → Hp → Prop} (ht : isTb h t nm F Wd) (hk : i32 k) (hq : Q 0 (some (.ref (t + 4 + 2 * (if 0 ≤ k ∧ k < 12 then k else 0).toNat))) h) : PR d m_Table_row [.ref t, .int (iI k)] h Q := by
  obtain ⟨h1, h2, ⟨a1, a2, a3, a4⟩, -, -, h6, h7, h8⟩ := ht
  have h2' : t < zN h := by omega
  have h2a : t + 1 < zN h := by omega
  show PW d 89 0 [some (.ref t), some (.int (iI k))] [] h Q
  have fin : ∀ x : Int, x = (if 0 ≤ k ∧ k < 12 then k else 0) → PW d 89 12 [some (.ref t), some (.int (iI k))] [.int (iI x), .ref (t + 1)] h Q := fun x hx => by
    have hb : 0 ≤ x ∧ x < 12 := by rw [hx]; split <;> omega
    refine vs_ok 1 ?_
    rw [show ((gRes 89).drop 12).take 1 = [.aaload] from rfl]
    simp only [vs_aaload, vs_nil, gv_0, gv_1, gv_2, gv_3, pv_0, pv_1, va_rf_s, Nat.reduceDiv, Nat.reduceMod, Nat.reduceAdd, Nat.reduceMul, Int.reduceToNat, true_and, and_true, and_self, cP_eq, cP_ne, cP_lt, cP_ge, cP_gt, cP_le, eL_i, eL_l, eL_r, eL_n, Option.toList_none, Option.toList_some, List.nil_append, List.cons_append, a2, a3, h2a]
    refine ⟨(inB_iI (by constructor <;> omega)).mpr ⟨hb.1, by omega⟩, ?_⟩
    rw [iI_nat (by constructor <;> omega) hb.1, a4 _ (by omega)]
    refine vs_ok 1 ?_
    rw [show ((gRes 89).drop 13).take 1 = [.areturn] from rfl]
    simp only [vs_areturn, vs_nil, gv_0, gv_1, gv_2, gv_3, pv_0, pv_1, va_rf_s, Nat.reduceDiv, Nat.reduceMod, Nat.reduceAdd, Nat.reduceMul, Int.reduceToNat, true_and, and_true, and_self, cP_eq, cP_ne, cP_lt, cP_ge, cP_gt, cP_le, eL_i, eL_l, eL_r, eL_n, Option.toList_none, Option.toList_some, List.nil_append, List.cons_append]
    rw [hx]
    exact ⟨by decide, hq⟩
  have no : ¬ (0 ≤ k ∧ k < 12) → PW d 89 9 [some (.ref t), some (.int (iI k))] [.ref (t + 1)] h Q := fun c => by
    refine vs_ok 2 ?_
    rw [show ((gRes 89).drop 9).take 2 = [.iconst 0, .goto 12] from rfl]
    simp only [vs_iconst, vs_goto, vs_nil, gv_0, gv_1, gv_2, gv_3, pv_0, pv_1, va_rf_s, Nat.reduceDiv, Nat.reduceMod, Nat.reduceAdd, Nat.reduceMul, Int.reduceToNat, true_and, and_true, and_self, cP_eq, cP_ne, cP_lt, cP_ge, cP_gt, cP_le, eL_i, eL_l, eL_r, eL_n, Option.toList_none, Option.toList_some, List.nil_append, List.cons_append]
    exact fin 0 (by rw [if_neg c])
  refine vs_ok 4 ?_
  rw [show ((gRes 89).drop 0).take 4 = [.aload 0, .getfield 7002, .iload 1, .ifCond .lt 9] from rfl]
  simp only [vs_ifCond, vs_getfield, vs_aload0, vs_iload1, vs_nil, gv_0, gv_1, gv_2, gv_3, pv_0, pv_1, va_rf_s, Nat.reduceDiv, Nat.reduceMod, Nat.reduceAdd, Nat.reduceMul, Int.reduceToNat, true_and, and_true, and_self, cP_eq, cP_ne, cP_lt, cP_ge, cP_gt, cP_le, eL_i, eL_l, eL_r, eL_n, Option.toList_none, Option.toList_some, List.nil_append, List.cons_append, h1, h2', a1]
  rw [zt0 hk]
  refine ⟨fun c => no (by omega), fun c => ?_⟩
  refine vs_ok 5 ?_
  rw [show ((gRes 89).drop 4).take 5 = [.iload 1, .aload 0, .getfield 7002, .arraylength, .if_icmp .lt 11] from rfl]
  simp only [vs_if_icmp, vs_getfield, vs_arraylength, vs_aload0, vs_iload1, vs_nil, gv_0, gv_1, gv_2, gv_3, pv_0, pv_1, va_rf_s, Nat.reduceDiv, Nat.reduceMod, Nat.reduceAdd, Nat.reduceMul, Int.reduceToNat, true_and, and_true, and_self, cP_eq, cP_ne, cP_lt, cP_ge, cP_gt, cP_le, eL_i, eL_l, eL_r, eL_n, Option.toList_none, Option.toList_some, List.nil_append, List.cons_append, h1, h2', a1, a2, a3, h2a, or_true, true_or]
  rw [of12, iI_lt hk (by constructor <;> omega)]
  refine ⟨fun c2 => ?_, fun c2 => no (by omega)⟩
  refine vs_ok 1 ?_
  rw [show ((gRes 89).drop 11).take 1 = [.iload 1] from rfl]
  simp only [vs_iload1, vs_nil, gv_0, gv_1, gv_2, gv_3, pv_0, pv_1, va_rf_s, Nat.reduceDiv, Nat.reduceMod, Nat.reduceAdd, Nat.reduceMul, Int.reduceToNat, true_and, and_true, and_self, cP_eq, cP_ne, cP_lt, cP_ge, cP_gt, cP_le, eL_i, eL_l, eL_r, eL_n, Option.toList_none, Option.toList_some, List.nil_append, List.cons_append]
  exact fin k (by rw [if_pos (by omega)])
theorem t_facesOf {d : Nat} {h : Hp} {t : Nat} {nm k : Int} {F Wd : Nat → Int} {Q : Nat → Option Value → Hp → Prop} (ht : isTb h t nm F Wd) (hk : i32 k) (hq : Q 0 (some (.int (iI (if 0 ≤ k ∧ k < 12 then F k.toNat else 0)))) h) : PR d m_Table_facesOf [.ref t, .int (iI k)] h Q := by
  obtain ⟨h1, h2, -, ⟨a1, a2, a3, a4⟩, -, h6, h7, h8⟩ := ht
  have h2' : t < zN h := by omega
  have h2a : t + 2 < zN h := by omega
  show PW d 90 0 [some (.ref t), some (.int (iI k))] [] h Q
  have no : ¬ (0 ≤ k ∧ k < 12) → PW d 90 7 [some (.ref t), some (.int (iI k))] [] h Q := fun c => by
    refine vs_ok 2 ?_
    rw [show ((gRes 90).drop 7).take 2 = [.iconst 0, .goto 13] from rfl]
    simp only [vs_iconst, vs_goto, vs_nil, gv_0, gv_1, gv_2, gv_3, pv_0, pv_1, va_rf_s, Nat.reduceDiv, Nat.reduceMod, Nat.reduceAdd, Nat.reduceMul, Int.reduceToNat, true_and, and_true, and_self, cP_eq, cP_ne, cP_lt, cP_ge, cP_gt, cP_le, eL_i, eL_l, eL_r, eL_n, Option.toList_none, Option.toList_some, List.nil_append, List.cons_append]
    refine vs_ok 1 ?_
    rw [show ((gRes 90).drop 13).take 1 = [.ireturn] from rfl]
    simp only [vs_ireturn, vs_nil, gv_0, gv_1, gv_2, gv_3, pv_0, pv_1, va_rf_s, Nat.reduceDiv, Nat.reduceMod, Nat.reduceAdd, Nat.reduceMul, Int.reduceToNat, true_and, and_true, and_self, cP_eq, cP_ne, cP_lt, cP_ge, cP_gt, cP_le, eL_i, eL_l, eL_r, eL_n, Option.toList_none, Option.toList_some, List.nil_append, List.cons_append]
    rw [if_neg c] at hq
    exact ⟨Or.inl (by decide), hq⟩
  refine vs_ok 2 ?_
  rw [show ((gRes 90).drop 0).take 2 = [.iload 1, .ifCond .lt 7] from rfl]
  simp only [vs_ifCond, vs_iload1, vs_nil, gv_0, gv_1, gv_2, gv_3, pv_0, pv_1, va_rf_s, Nat.reduceDiv, Nat.reduceMod, Nat.reduceAdd, Nat.reduceMul, Int.reduceToNat, true_and, and_true, and_self, cP_eq, cP_ne, cP_lt, cP_ge, cP_gt, cP_le, eL_i, eL_l, eL_r, eL_n, Option.toList_none, Option.toList_some, List.nil_append, List.cons_append]
  rw [zt0 hk]
  refine ⟨fun c => no (by omega), fun c => ?_⟩
  refine vs_ok 5 ?_
  rw [show ((gRes 90).drop 2).take 5 = [.iload 1, .aload 0, .getfield 7012, .arraylength, .if_icmp .lt 9] from rfl]
  simp only [vs_if_icmp, vs_getfield, vs_arraylength, vs_aload0, vs_iload1, vs_nil, gv_0, gv_1, gv_2, gv_3, pv_0, pv_1, va_rf_s, Nat.reduceDiv, Nat.reduceMod, Nat.reduceAdd, Nat.reduceMul, Int.reduceToNat, true_and, and_true, and_self, cP_eq, cP_ne, cP_lt, cP_ge, cP_gt, cP_le, eL_i, eL_l, eL_r, eL_n, Option.toList_none, Option.toList_some, List.nil_append, List.cons_append, h1, h2', a1, a2, a3, h2a, or_true, true_or]
  rw [of12, iI_lt hk (by constructor <;> omega)]
  refine ⟨fun c2 => ?_, fun c2 => no (by omega)⟩
  refine vs_ok 5 ?_
  rw [show ((gRes 90).drop 9).take 5 = [.aload 0, .getfield 7012, .iload 1, .iaload, .ireturn] from rfl]
  simp only [vs_getfield, vs_iaload, vs_ireturn, vs_aload0, vs_iload1, vs_nil, gv_0, gv_1, gv_2, gv_3, pv_0, pv_1, va_rf_s, Nat.reduceDiv, Nat.reduceMod, Nat.reduceAdd, Nat.reduceMul, Int.reduceToNat, true_and, and_true, and_self, cP_eq, cP_ne, cP_lt, cP_ge, cP_gt, cP_le, eL_i, eL_l, eL_r, eL_n, Option.toList_none, Option.toList_some, List.nil_append, List.cons_append, h1, h2', a1, a2, a3, h2a]
  refine ⟨(inB_iI hk).mpr ⟨by omega, by omega⟩, Or.inl (by decide), ?_⟩
  rw [iI_nat hk (by omega), a4 _ (by omega)]
  rw [if_pos (by omega)] at hq
  exact hq
/-- how many of the first n have FACES -/
def cntF (F : Nat → Int) : Nat → Int
  | 0 => 0
  | n + 1 => cntF F n + (if 0 < F n then 1 else 0)
theorem cntF_b (F : Nat → Int) : ∀ n : Nat, 0 ≤ cntF F n ∧ cntF F n ≤ n
  | 0 => ⟨Int.le_refl _, Int.le_refl _⟩
  | n + 1 => by
    have := cntF_b F n
    show 0 ≤ cntF F n + _ ∧ cntF F n + _ ≤ _
    split <;> omega
theorem t_dice {d : Nat} {h : Hp} {t : Nat} {nm : Int} {F Wd : Nat → Int} {Q : Nat → Option Value → Hp → Prop} (ht : isTb h t nm F Wd) (hF : ∀ i : Nat, (i : Int) < nm → 0 ≤ F i ∧ F i ≤ 12) (hq : Q 0 (some (.int (iI (cntF F nm.toNat)))) h) : PR (d + 1) m_Table_dice [.ref t] h Q := by
  obtain ⟨h1, h2, -, -, -, h6, h7, h8⟩ := id ht
  have h2' : t < zN h := by omega
  show PW (d + 1) 91 0 [some (.ref t), none, none] [] h Q
  refine vs_ok 4 ?_
  rw [show ((gRes 91).drop 0).take 4 = [.iconst 0, .istore 1, .iconst 0, .istore 2] from rfl]
  simp only [vs_iconst, vs_istore1n, vs_istore1i, vs_istore1r, vs_istore1l, vs_istore2n, vs_istore2i, vs_istore2r, vs_istore2l, vs_nil, gv_0, gv_1, gv_2, gv_3, pv_0, pv_1, va_rf_s, Nat.reduceDiv, Nat.reduceMod, Nat.reduceAdd, Nat.reduceMul, Int.reduceToNat, true_and, and_true, and_self, cP_eq, cP_ne, cP_lt, cP_ge, cP_gt, cP_le, eL_i, eL_l, eL_r, eL_n, Option.toList_none, Option.toList_some, List.nil_append, List.cons_append]
  have loop : ∀ (k i : Nat), k + i = nm.toNat → PW (d + 1) 91 4 [some (.ref t), some (.int (iI (cntF F i))), some (.int (iI i))] [] h Q := by
    intro k
    induction k with
    | zero =>
      intro i hk
      refine vs_ok 4 ?_
      rw [show ((gRes 91).drop 4).take 4 = [.iload 2, .aload 0, .getfield 7030, .if_icmp .ge 15] from rfl]
      simp only [vs_if_icmp, vs_getfield, vs_aload0, vs_iload2, vs_nil, gv_0, gv_1, gv_2, gv_3, pv_0, pv_1, va_rf_s, Nat.reduceDiv, Nat.reduceMod, Nat.reduceAdd, Nat.reduceMul, Int.reduceToNat, true_and, and_true, and_self, cP_eq, cP_ne, cP_lt, cP_ge, cP_gt, cP_le, eL_i, eL_l, eL_r, eL_n, Option.toList_none, Option.toList_some, List.nil_append, List.cons_append, h1, h2', h6]
      rw [iI_le (by constructor <;> omega) (by constructor <;> omega)]
      refine ⟨fun _ => ?_, fun c => absurd (show nm ≤ (i : Int) by omega) c⟩
      refine vs_ok 2 ?_
      rw [show ((gRes 91).drop 15).take 2 = [.iload 1, .ireturn] from rfl]
      simp only [vs_ireturn, vs_iload1, vs_nil, gv_0, gv_1, gv_2, gv_3, pv_0, pv_1, va_rf_s, Nat.reduceDiv, Nat.reduceMod, Nat.reduceAdd, Nat.reduceMul, Int.reduceToNat, true_and, and_true, and_self, cP_eq, cP_ne, cP_lt, cP_ge, cP_gt, cP_le, eL_i, eL_l, eL_r, eL_n, Option.toList_none, Option.toList_some, List.nil_append, List.cons_append]
      rw [show i = nm.toNat by omega]
      exact ⟨Or.inl (by decide), hq⟩
    | succ k ih =>
      intro i hk
      have cb := cntF_b F i
      refine vs_ok 4 ?_
      rw [show ((gRes 91).drop 4).take 4 = [.iload 2, .aload 0, .getfield 7030, .if_icmp .ge 15] from rfl]
      simp only [vs_if_icmp, vs_getfield, vs_aload0, vs_iload2, vs_nil, gv_0, gv_1, gv_2, gv_3, pv_0, pv_1, va_rf_s, Nat.reduceDiv, Nat.reduceMod, Nat.reduceAdd, Nat.reduceMul, Int.reduceToNat, true_and, and_true, and_self, cP_eq, cP_ne, cP_lt, cP_ge, cP_gt, cP_le, eL_i, eL_l, eL_r, eL_n, Option.toList_none, Option.toList_some, List.nil_append, List.cons_append, h1, h2', h6]
      rw [iI_le (by constructor <;> omega) (by constructor <;> omega)]
      refine ⟨fun c => absurd c (by omega), fun _ => ?_⟩
      refine vs_ok 3 ?_
      rw [show ((gRes 91).drop 8).take 3 = [.aload 0, .iload 2, .invokevirtual 90] from rfl]
      simp only [vs_iv, vs_aload0, vs_iload2, vs_nil, gv_0, gv_1, gv_2, gv_3, pv_0, pv_1, va_rf_s, Nat.reduceDiv, Nat.reduceMod, Nat.reduceAdd, Nat.reduceMul, Int.reduceToNat, true_and, and_true, and_self, cP_eq, cP_ne, cP_lt, cP_ge, cP_gt, cP_le, eL_i, eL_l, eL_r, eL_n, Option.toList_none, Option.toList_some, List.nil_append, List.cons_append]
      refine PW.iv rfl rfl rfl h1 h2' (le_b rfl) (le_b rfl) ?_
      refine t_facesOf ht (by constructor <;> omega) ⟨rfl, ⟨rfl, rfl⟩, ?_⟩
      rw [if_pos (by omega), show ((i : Int)).toNat = i by omega]
      have hFi := hF i (by omega)
      refine vs_ok 1 ?_
      rw [show ((gRes 91).drop 11).take 1 = [.ifCond .le 13] from rfl]
      simp only [vs_ifCond, vs_nil, gv_0, gv_1, gv_2, gv_3, pv_0, pv_1, va_rf_s, Nat.reduceDiv, Nat.reduceMod, Nat.reduceAdd, Nat.reduceMul, Int.reduceToNat, true_and, and_true, and_self, cP_eq, cP_ne, cP_lt, cP_ge, cP_gt, cP_le, eL_i, eL_l, eL_r, eL_n, Option.toList_none, Option.toList_some, List.nil_append, List.cons_append]
      rw [zle0 (by constructor <;> omega)]
      have nxt : ∀ c : Int, c = cntF F (i + 1) → PW (d + 1) 91 13 [some (.ref t), some (.int (iI c)), some (.int (iI i))] [] h Q := fun c hc => by
        refine vs_ok 2 ?_
        rw [show ((gRes 91).drop 13).take 2 = [.iinc 2 1, .goto 4] from rfl]
        simp only [vs_goto, vs_iinc2n, vs_iinc2i, vs_iinc2r, vs_iinc2l, vs_nil, gv_0, gv_1, gv_2, gv_3, pv_0, pv_1, va_rf_s, Nat.reduceDiv, Nat.reduceMod, Nat.reduceAdd, Nat.reduceMul, Int.reduceToNat, true_and, and_true, and_self, cP_eq, cP_ne, cP_lt, cP_ge, cP_gt, cP_le, eL_i, eL_l, eL_r, eL_n, Option.toList_none, Option.toList_some, List.nil_append, List.cons_append, iI_add]
        rw [hc]
        exact ih (i + 1) (by omega)
      refine ⟨fun c => nxt _ ?_, fun c => ?_⟩
      · show _ = cntF F i + _
        rw [if_neg (by omega), Int.add_zero]
      · refine vs_ok 1 ?_
        rw [show ((gRes 91).drop 12).take 1 = [.iinc 1 1] from rfl]
        simp only [vs_iinc1n, vs_iinc1i, vs_iinc1r, vs_iinc1l, vs_nil, gv_0, gv_1, gv_2, gv_3, pv_0, pv_1, va_rf_s, Nat.reduceDiv, Nat.reduceMod, Nat.reduceAdd, Nat.reduceMul, Int.reduceToNat, true_and, and_true, and_self, cP_eq, cP_ne, cP_lt, cP_ge, cP_gt, cP_le, eL_i, eL_l, eL_r, eL_n, Option.toList_none, Option.toList_some, List.nil_append, List.cons_append, iI_add]
        refine nxt _ ?_
        show _ = cntF F i + _
        rw [if_pos (by omega)]
  exact loop nm.toNat 0 (by omega)
/-- the first of the places i, i + 1 .. i + k - 1 where w stands; else -1 -/
def fndW (Wd : Nat → Int) (w : Int) : Nat → Nat → Int
  | 0, _ => -1
  | k + 1, i => if Wd i = w then (i : Int) else fndW Wd w k (i + 1)
theorem t_find {d : Nat} {h : Hp} {t : Nat} {nm w : Int} {F Wd : Nat → Int} {Q : Nat → Option Value → Hp → Prop} (ht : isTb h t nm F Wd) (hw : i32 w) (hWd : ∀ i, i < 12 → i32 (Wd i)) (hq : Q 0 (some (.int (iI (fndW Wd w nm.toNat 0)))) h) : PR d m_Table_find [.ref t, .int (iI w)] h Q := by
  obtain ⟨h1, h2, -, -, ⟨a1, a2, a3, a4⟩, h6, h7, h8⟩ := id ht
  have h2' : t < zN h := by omega
  have h2a : t + 3 < zN h := by omega
  show PW d 92 0 [some (.ref t), some (.int (iI w)), none] [] h Q
  refine vs_ok 2 ?_
  rw [show ((gRes 92).drop 0).take 2 = [.iconst 0, .istore 2] from rfl]
  simp only [vs_iconst, vs_istore2n, vs_istore2i, vs_istore2r, vs_istore2l, vs_nil, gv_0, gv_1, gv_2, gv_3, pv_0, pv_1, va_rf_s, Nat.reduceDiv, Nat.reduceMod, Nat.reduceAdd, Nat.reduceMul, Int.reduceToNat, true_and, and_true, and_self, cP_eq, cP_ne, cP_lt, cP_ge, cP_gt, cP_le, eL_i, eL_l, eL_r, eL_n, Option.toList_none, Option.toList_some, List.nil_append, List.cons_append]
  have loop : ∀ (k i : Nat), k + i = nm.toNat → fndW Wd w k i = fndW Wd w nm.toNat 0 → PW d 92 2 [some (.ref t), some (.int (iI w)), some (.int (iI i))] [] h Q := by
    intro k
    induction k with
    | zero =>
      intro i hk hf
      refine vs_ok 4 ?_
      rw [show ((gRes 92).drop 2).take 4 = [.iload 2, .aload 0, .getfield 7030, .if_icmp .ge 21] from rfl]
      simp only [vs_if_icmp, vs_getfield, vs_aload0, vs_iload2, vs_nil, gv_0, gv_1, gv_2, gv_3, pv_0, pv_1, va_rf_s, Nat.reduceDiv, Nat.reduceMod, Nat.reduceAdd, Nat.reduceMul, Int.reduceToNat, true_and, and_true, and_self, cP_eq, cP_ne, cP_lt, cP_ge, cP_gt, cP_le, eL_i, eL_l, eL_r, eL_n, Option.toList_none, Option.toList_some, List.nil_append, List.cons_append, h1, h2', h6]
      rw [iI_le (by constructor <;> omega) (by constructor <;> omega)]
      refine ⟨fun _ => ?_, fun c => absurd (show nm ≤ (i : Int) by omega) c⟩
      refine vs_ok 2 ?_
      rw [show ((gRes 92).drop 21).take 2 = [.iconst (-1), .ireturn] from rfl]
      simp only [vs_iconst, vs_ireturn, vs_nil, gv_0, gv_1, gv_2, gv_3, pv_0, pv_1, va_rf_s, Nat.reduceDiv, Nat.reduceMod, Nat.reduceAdd, Nat.reduceMul, Int.reduceToNat, true_and, and_true, and_self, cP_eq, cP_ne, cP_lt, cP_ge, cP_gt, cP_le, eL_i, eL_l, eL_r, eL_n, Option.toList_none, Option.toList_some, List.nil_append, List.cons_append]
      rw [← hf] at hq
      exact ⟨Or.inl (by decide), hq⟩
    | succ k ih =>
      intro i hk hf
      refine vs_ok 4 ?_
      rw [show ((gRes 92).drop 2).take 4 = [.iload 2, .aload 0, .getfield 7030, .if_icmp .ge 21] from rfl]
      simp only [vs_if_icmp, vs_getfield, vs_aload0, vs_iload2, vs_nil, gv_0, gv_1, gv_2, gv_3, pv_0, pv_1, va_rf_s, Nat.reduceDiv, Nat.reduceMod, Nat.reduceAdd, Nat.reduceMul, Int.reduceToNat, true_and, and_true, and_self, cP_eq, cP_ne, cP_lt, cP_ge, cP_gt, cP_le, eL_i, eL_l, eL_r, eL_n, Option.toList_none, Option.toList_some, List.nil_append, List.cons_append, h1, h2', h6]
      rw [iI_le (by constructor <;> omega) (by constructor <;> omega)]
      refine ⟨fun c => absurd c (by omega), fun _ => ?_⟩
      refine vs_ok 5 ?_
      rw [show ((gRes 92).drop 6).take 5 = [.iload 2, .aload 0, .getfield 7022, .arraylength, .if_icmp .ge 21] from rfl]
      simp only [vs_if_icmp, vs_getfield, vs_arraylength, vs_aload0, vs_iload2, vs_nil, gv_0, gv_1, gv_2, gv_3, pv_0, pv_1, va_rf_s, Nat.reduceDiv, Nat.reduceMod, Nat.reduceAdd, Nat.reduceMul, Int.reduceToNat, true_and, and_true, and_self, cP_eq, cP_ne, cP_lt, cP_ge, cP_gt, cP_le, eL_i, eL_l, eL_r, eL_n, Option.toList_none, Option.toList_some, List.nil_append, List.cons_append, h1, h2', a1, a2, a3, h2a, or_true, true_or]
      rw [of12, iI_le (by constructor <;> omega) (by constructor <;> omega)]
      refine ⟨fun c => absurd c (by omega), fun _ => ?_⟩
      refine vs_ok 6 ?_
      rw [show ((gRes 92).drop 11).take 6 = [.aload 0, .getfield 7022, .iload 2, .iaload, .iload 1, .if_icmp .ne 19] from rfl]
      simp only [vs_if_icmp, vs_getfield, vs_iaload, vs_aload0, vs_iload1, vs_iload2, vs_nil, gv_0, gv_1, gv_2, gv_3, pv_0, pv_1, va_rf_s, Nat.reduceDiv, Nat.reduceMod, Nat.reduceAdd, Nat.reduceMul, Int.reduceToNat, true_and, and_true, and_self, cP_eq, cP_ne, cP_lt, cP_ge, cP_gt, cP_le, eL_i, eL_l, eL_r, eL_n, Option.toList_none, Option.toList_some, List.nil_append, List.cons_append, h1, h2', a1, a2, a3, h2a]
      have hx : i32 (Wd i) := hWd i (by omega)
      rw [iI_nat (by constructor <;> omega) (by omega), show ((i : Int)).toNat = i by omega, a4 _ (by omega), iI_eq hx hw]
      refine ⟨(inB_iI (by constructor <;> omega)).mpr ⟨by omega, by omega⟩, fun c => ?_, fun c => ?_⟩
      · refine vs_ok 2 ?_
        rw [show ((gRes 92).drop 19).take 2 = [.iinc 2 1, .goto 2] from rfl]
        simp only [vs_goto, vs_iinc2n, vs_iinc2i, vs_iinc2r, vs_iinc2l, vs_nil, gv_0, gv_1, gv_2, gv_3, pv_0, pv_1, va_rf_s, Nat.reduceDiv, Nat.reduceMod, Nat.reduceAdd, Nat.reduceMul, Int.reduceToNat, true_and, and_true, and_self, cP_eq, cP_ne, cP_lt, cP_ge, cP_gt, cP_le, eL_i, eL_l, eL_r, eL_n, Option.toList_none, Option.toList_some, List.nil_append, List.cons_append, iI_add]
        refine ih (i + 1) (by omega) ?_
        rw [← hf]
        show _ = (if Wd i = w then (i : Int) else fndW Wd w k (i + 1))
        rw [if_neg c]
      · refine vs_ok 2 ?_
        rw [show ((gRes 92).drop 17).take 2 = [.iload 2, .ireturn] from rfl]
        simp only [vs_ireturn, vs_iload2, vs_nil, gv_0, gv_1, gv_2, gv_3, pv_0, pv_1, va_rf_s, Nat.reduceDiv, Nat.reduceMod, Nat.reduceAdd, Nat.reduceMul, Int.reduceToNat, true_and, and_true, and_self, cP_eq, cP_ne, cP_lt, cP_ge, cP_gt, cP_le, eL_i, eL_l, eL_r, eL_n, Option.toList_none, Option.toList_some, List.nil_append, List.cons_append]
        refine ⟨Or.inl (by decide), ?_⟩
        rw [← hf, show fndW Wd w (k + 1) i = (i : Int) from if_pos (Classical.not_not.mp c)] at hq
        exact hq
  exact loop nm.toNat 0 (by omega) rfl
