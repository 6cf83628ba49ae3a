/-! the small machine's judgement: helpers; Row -/
theorem cP_eq {x y : Int32} : cP .eq x y = (x = y) := rfl
theorem cP_ne {x y : Int32} : cP .ne x y = (¬ x = y) := rfl
theorem cP_lt {x y : Int32} : cP .lt x y = (x < y) := rfl
theorem cP_ge {x y : Int32} : cP .ge x y = (y ≤ x) := rfl
theorem cP_gt {x y : Int32} : cP .gt x y = (y < x) := rfl
theorem cP_le {x y : Int32} : cP .le x y = (x ≤ y) := rfl
theorem eL_n : eL [] = [] := rfl
theorem eL_i {x : Int32} {l : List Value} : eL (.int x :: l) = some (.int x) :: eL l := rfl
theorem eL_l {x : Int64} {l : List Value} : eL (.long x :: l) = some (.long x) :: none :: eL l := rfl
theorem eL_r {x : Nat} {l : List Value} : eL (.ref x :: l) = some (.ref x) :: eL l := rfl
/-- h' is h but for the cells S; nothing is made -/
def fr (S : Nat → Prop) (h h' : Hp) : Prop := zK h' = zK h ∧ zL h' = zL h ∧ zN h' = zN h ∧ zC h' = zC h ∧ zS h' = zS h ∧ (∀ a, ¬ S a → zI h' a = zI h a) ∧ (∀ a, ¬ S a → zJ h' a = zJ h a) ∧ (∀ a, ¬ S a → zR h' a = zR h a)
theorem fr.rf {S : Nat → Prop} {h : Hp} : fr S h h := ⟨rfl, rfl, rfl, rfl, rfl, fun _ _ => rfl, fun _ _ => rfl, fun _ _ => rfl⟩
theorem fr.tr {S : Nat → Prop} {a b c : Hp} (h1 : fr S a b) (h2 : fr S b c) : fr S a c := by
  obtain ⟨a1, a2, a3, a4, a5, a6, a7, a8⟩ := h1
  obtain ⟨b1, b2, b3, b4, b5, b6, b7, b8⟩ := h2
  exact ⟨b1.trans a1, b2.trans a2, b3.trans a3, b4.trans a4, b5.trans a5, fun q hq => (b6 q hq).trans (a6 q hq), fun q hq => (b7 q hq).trans (a7 q hq), fun q hq => (b8 q hq).trans (a8 q hq)⟩
theorem fr.wk {S T : Nat → Prop} {a b : Hp} (h1 : fr S a b) (hs : ∀ q, S q → T q) : fr T a b := by
  obtain ⟨a1, a2, a3, a4, a5, a6, a7, a8⟩ := h1
  exact ⟨a1, a2, a3, a4, a5, fun q hq => a6 q (fun z => hq (hs q z)), fun q hq => a7 q (fun z => hq (hs q z)), fun q hq => a8 q (fun z => hq (hs q z))⟩
theorem fr_I {S : Nat → Prop} {h : Hp} {a i : Nat} {v : Int32} (ha : S a) : fr S h (zsI h a i v) := ⟨rfl, rfl, rfl, rfl, rfl, fun q hq => zsI_o (fun z => hq (z ▸ ha)), fun _ _ => rfl, fun _ _ => rfl⟩
theorem fr_J {S : Nat → Prop} {h : Hp} {a i : Nat} {v : Int64} (ha : S a) : fr S h (zsJ h a i v) := ⟨rfl, rfl, rfl, rfl, rfl, fun _ _ => rfl, fun q hq => zsJ_o (fun z => hq (z ▸ ha)), fun _ _ => rfl⟩
theorem fr_R {S : Nat → Prop} {h : Hp} {a i : Nat} {v : Option Nat} (ha : S a) : fr S h (zsR h a i v) := ⟨rfl, rfl, rfl, rfl, rfl, fun _ _ => rfl, fun _ _ => rfl, fun q hq => zsR_o (fun z => hq (z ▸ ha))⟩
/-- a call of a method of an object b -/
theorem PW.iv {d k i y b : Nat} {ls : List (Option Value)} {st a r : List Value} {h : Hp} {Q : Nat → Option Value → Hp → Prop} (hf : (gRes k)[i]? = some (.invokevirtual y)) (hs : st.drop (gNP y) = .ref b :: r) (ha : (st.take (gNP y)).reverse = a) (hk : zK h b = gOwn y) (hb : b < zN h) (hcat : catS r ≤ 8) (hle : (eL (.ref b :: a)).length ≤ gML y)
    (hp : PR d y (.ref b :: a) h (fun t v h' => t = 0 ∧ (zN h' = zN h ∧ oOK (zN h') v = true) ∧ PW (d + 1) k (i + 1) ls (v.toList ++ r) h' Q)) : PW (d + 1) k i ls st h Q := by
  refine PW.call hf (y := y) (a := .ref b :: a) (r := r) ?_ hcat hle (PW.mono hp fun t v h' z => ⟨z.1, Or.inl z.2.1, z.2.2⟩)
  dsimp only [cl]
  rw [hs]
  dsimp only
  rw [if_pos ⟨hk, hb⟩, ha]
theorem PW.is {d k i y b : Nat} {ls : List (Option Value)} {st a r : List Value} {h : Hp} {Q : Nat → Option Value → Hp → Prop} (hf : (gRes k)[i]? = some (.invokespecial y)) (hs : st.drop (gNP y) = .ref b :: r) (ha : (st.take (gNP y)).reverse = a) (hcat : catS r ≤ 8) (hle : (eL (.ref b :: a)).length ≤ gML y)
    (hp : PR d y (.ref b :: a) h (fun t v h' => t = 0 ∧ ((zN h' = zN h ∧ oOK (zN h') v = true) ∨ fOK (zN h) ls r = true) ∧ PW (d + 1) k (i + 1) ls (v.toList ++ r) h' Q)) : PW (d + 1) k i ls st h Q := by
  refine PW.call hf (y := y) (a := .ref b :: a) (r := r) ?_ hcat hle hp
  dsimp only [cl]
  rw [hs]
  dsimp only
  rw [ha]
theorem PW.ss {d k i y : Nat} {ls : List (Option Value)} {st a r : List Value} {h : Hp} {Q : Nat → Option Value → Hp → Prop} (hf : (gRes k)[i]? = some (.invokestatic y)) (hn : gNP y ≤ st.length) (hs : st.drop (gNP y) = r) (ha : (st.take (gNP y)).reverse = a) (hcat : catS r ≤ 8) (hle : (eL a).length ≤ gML y)
    (hp : PR d y a h (fun t v h' => t = 0 ∧ (zN h' = zN h ∧ oOK (zN h') v = true) ∧ PW (d + 1) k (i + 1) ls (v.toList ++ r) h' Q)) : PW (d + 1) k i ls st h Q := by
  refine PW.call hf (y := y) (a := a) (r := r) ?_ hcat hle (PW.mono hp fun t v h' z => ⟨z.1, Or.inl z.2.1, z.2.2⟩)
  dsimp only [cl]
  rw [if_pos hn, ha, hs]
theorem le_b {a b : Nat} (h : Nat.ble a b = true) : a ≤ b := Nat.le_of_ble_eq_true h
-- what stands behind a setter
theorem zI_sI {h : Hp} {a i b j : Nat} {v : Int32} : zI (zsI h a i v) b j = if b = a ∧ j = i then v else zI h b j := rfl
theorem zJ_sJ {h : Hp} {a i b j : Nat} {v : Int64} : zJ (zsJ h a i v) b j = if b = a ∧ j = i then v else zJ h b j := rfl
theorem zR_sR {h : Hp} {a i b j : Nat} {v : Option Nat} : zR (zsR h a i v) b j = if b = a ∧ j = i then v else zR h b j := rfl
/-- r is a row whose reach is rc; its WAYS stand in the cell r + 1 -/
def isRow (h : Hp) (r rc : Nat) : Prop := zK h r = 6 ∧ r < zN h ∧ zK h (r + 1) = 15 ∧ r + 1 < zN h ∧ zL h (r + 1) = 2 * rc + 1 ∧ zI h r 0 = iI rc ∧ zR h r 1 = some (r + 1) ∧ rc ≤ 800
theorem isRow.fr {S : Nat → Prop} {h h' : Hp} {r rc : Nat} (hr : isRow h r rc) (hf : fr S h h') (h0 : zI h' r 0 = zI h r 0) (h1 : zR h' r 1 = zR h r 1) : isRow h' r rc := by
  obtain ⟨a1, a2, a3, a4, a5, a6, a7, a8⟩ := hr
  obtain ⟨b1, b2, b3, -⟩ := hf
  exact ⟨by rw [b1]; exact a1, by rw [b3]; exact a2, by rw [b1]; exact a3, by rw [b3]; exact a4, by rw [b2]; exact a5, by rw [h0]; exact a6, by rw [h1]; exact a7, a8⟩
/-- WAYS of n as they stand in the cell w -/
def wAt (h : Hp) (w rc : Nat) (n : Int) : Int64 := if -rc ≤ n ∧ n ≤ rc then zJ h w (n + rc).toNat else 0
theorem wAt_eq {h h' : Hp} {w rc : Nat} {m : Int} (e : zJ h' w = zJ h w) : wAt h' w rc m = wAt h w rc m := by
  unfold wAt
  rw [e]
theorem t_at {d : Nat} {h : Hp} {r rc : Nat} {n : Int} {Q : Nat → Option Value → Hp → Prop} (hr : isRow h r rc) (hn : -1000000 ≤ n ∧ n ≤ 1000000) (hq : Q 0 (some (.long (wAt h (r + 1) rc n))) h) : PR d m_Row_at [.ref r, .int (iI n)] h Q := by
  obtain ⟨h1, h2, h3, h4, h5, h6, h7, h8⟩ := hr
  have b1 : i32 (n + rc) := by constructor <;> omega
  show PW d 66 0 [some (.ref r), some (.int (iI n)), none] [] h Q
  refine vs_ok 7 ?_
  rw [show ((gRes 66).drop 0).take 7 = [.iload 1, .aload 0, .getfield 6000, .iadd, .istore 2, .iload 2, .ifCond .lt 12] from rfl]
  simp only [vs_iadd, vs_ifCond, vs_getfield, vs_aload0, vs_iload1, vs_iload2, vs_istore2n, vs_istore2i, vs_istore2r, vs_istore2l, vs_nil, gv_0, gv_1, gv_2, gv_3, pv_0, pv_1, va_rf_s, Nat.reduceDiv, Nat.reduceMod, Nat.reduceAdd, Nat.reduceMul, Int.reduceToNat, true_and, and_true, and_self, cP_eq, cP_ne, cP_lt, cP_ge, cP_gt, cP_le, eL_i, eL_l, eL_r, eL_n, Option.toList_none, Option.toList_some, List.nil_append, List.cons_append, h1, h2, h6, iI_add]
  rw [n0_iI, iI_lt b1 (by constructor <;> omega)]
  have hz : ¬ (-rc ≤ n ∧ n ≤ rc) → PW d 66 12 [some (.ref r), some (.int (iI n)), some (.int (iI (n + rc)))] [] h Q := fun hc => by
    refine vs_ok 2 ?_
    rw [show ((gRes 66).drop 12).take 2 = [.jsr_w 0, .goto 18] from rfl]
    simp only [vs_jsr_w, vs_goto, vs_nil, gv_0, gv_1, gv_2, gv_3, pv_0, pv_1, va_rf_s, Nat.reduceDiv, Nat.reduceMod, Nat.reduceAdd, Nat.reduceMul, Int.reduceToNat, true_and, and_true, and_self, cP_eq, cP_ne, cP_lt, cP_ge, cP_gt, cP_le, eL_i, eL_l, eL_r, eL_n, Option.toList_none, Option.toList_some, List.nil_append, List.cons_append]
    refine vs_ok 1 ?_
    rw [show ((gRes 66).drop 18).take 1 = [.lreturn] from rfl]
    simp only [vs_lreturn, vs_nil, gv_0, gv_1, gv_2, gv_3, pv_0, pv_1, va_rf_s, Nat.reduceDiv, Nat.reduceMod, Nat.reduceAdd, Nat.reduceMul, Int.reduceToNat, true_and, and_true, and_self, cP_eq, cP_ne, cP_lt, cP_ge, cP_gt, cP_le, eL_i, eL_l, eL_r, eL_n, Option.toList_none, Option.toList_some, List.nil_append, List.cons_append]
    refine ⟨by decide, ?_⟩
    have : wAt h (r + 1) rc n = 0 := if_neg hc
    rw [this] at hq
    exact hq
  refine ⟨fun c1 => hz (by omega), fun c1 => ?_⟩
  refine vs_ok 5 ?_
  rw [show ((gRes 66).drop 7).take 5 = [.iload 2, .aload 0, .getfield 6012, .arraylength, .if_icmp .lt 14] from rfl]
  simp only [vs_if_icmp, vs_getfield, vs_arraylength, vs_aload0, vs_iload2, vs_nil, gv_0, gv_1, gv_2, gv_3, pv_0, pv_1, va_rf_s, Nat.reduceDiv, Nat.reduceMod, Nat.reduceAdd, Nat.reduceMul, Int.reduceToNat, true_and, and_true, and_self, cP_eq, cP_ne, cP_lt, cP_ge, cP_gt, cP_le, eL_i, eL_l, eL_r, eL_n, Option.toList_none, Option.toList_some, List.nil_append, List.cons_append, h1, h2, h3, h4, h5, h7, or_true, true_or]
  rw [show Int32.ofNat (2 * rc + 1) = iI ((2 * rc + 1 : Nat) : Int) from nI_iI _, iI_lt b1 (by constructor <;> omega)]
  refine ⟨fun c2 => ?_, fun c2 => hz (by omega)⟩
  refine vs_ok 5 ?_
  rw [show ((gRes 66).drop 14).take 5 = [.aload 0, .getfield 6012, .iload 2, .laload, .lreturn] from rfl]
  simp only [vs_getfield, vs_laload, vs_lreturn, vs_aload0, vs_iload2, vs_nil, gv_0, gv_1, gv_2, gv_3, pv_0, pv_1, va_rf_s, Nat.reduceDiv, Nat.reduceMod, Nat.reduceAdd, Nat.reduceMul, Int.reduceToNat, true_and, and_true, and_self, cP_eq, cP_ne, cP_lt, cP_ge, cP_gt, cP_le, eL_i, eL_l, eL_r, eL_n, Option.toList_none, Option.toList_some, List.nil_append, List.cons_append, h1, h2, h3, h4, h5, h7]
  refine ⟨(inB_iI b1).mpr ⟨by omega, by omega⟩, by decide, ?_⟩
  have : wAt h (r + 1) rc n = zJ h (r + 1) (iI (n + rc)).toNatClampNeg := by
    rw [iI_nat b1 (by omega)]
    exact if_pos ⟨by omega, by omega⟩
  rw [this] at hq
  exact hq
theorem t_put {d : Nat} {h : Hp} {r rc : Nat} {n : Int} {v : Int64} {Q : Nat → Option Value → Hp → Prop} (hr : isRow h r rc) (hn : -1000000 ≤ n ∧ n ≤ 1000000) (hq : ∀ h', fr (fun q => q = r + 1) h h' → (∀ m, wAt h' (r + 1) rc m = if m = n ∧ -rc ≤ n ∧ n ≤ rc then v else wAt h (r + 1) rc m) → Q 0 none h') : PR d m_Row_put [.ref r, .int (iI n), .long v] h Q := by
  obtain ⟨h1, h2, h3, h4, h5, h6, h7, h8⟩ := hr
  have b1 : i32 (n + rc) := by constructor <;> omega
  show PW d 67 0 [some (.ref r), some (.int (iI n)), some (.long v), none, none] [] h Q
  refine vs_ok 7 ?_
  rw [show ((gRes 67).drop 0).take 7 = [.iload 1, .aload 0, .getfield 6000, .iadd, .istore 4, .iload 4, .ifCond .lt 17] from rfl]
  simp only [vs_iadd, vs_ifCond, vs_getfield, vs_aload0, vs_iload1, vs_iload4, vs_istore4n, vs_istore4i, vs_istore4r, vs_istore4l, vs_nil, gv_0, gv_1, gv_2, gv_3, pv_0, pv_1, va_rf_s, Nat.reduceDiv, Nat.reduceMod, Nat.reduceAdd, Nat.reduceMul, Int.reduceToNat, true_and, and_true, and_self, cP_eq, cP_ne, cP_lt, cP_ge, cP_gt, cP_le, eL_i, eL_l, eL_r, eL_n, Option.toList_none, Option.toList_some, List.nil_append, List.cons_append, h1, h2, h6, iI_add]
  rw [n0_iI, iI_lt b1 (by constructor <;> omega)]
  have hz : ¬ (-rc ≤ n ∧ n ≤ rc) → PW d 67 17 [some (.ref r), some (.int (iI n)), some (.long v), none, some (.int (iI (n + rc)))] [] h Q := fun hc => by
    refine vs_ok 1 ?_
    rw [show ((gRes 67).drop 17).take 1 = [.return_] from rfl]
    simp only [vs_return_, vs_nil, gv_0, gv_1, gv_2, gv_3, pv_0, pv_1, va_rf_s, Nat.reduceDiv, Nat.reduceMod, Nat.reduceAdd, Nat.reduceMul, Int.reduceToNat, true_and, and_true, and_self, cP_eq, cP_ne, cP_lt, cP_ge, cP_gt, cP_le, eL_i, eL_l, eL_r, eL_n, Option.toList_none, Option.toList_some, List.nil_append, List.cons_append]
    refine ⟨by decide, hq h fr.rf fun m => ?_⟩
    rw [if_neg (fun z => hc z.2)]
  refine ⟨fun c1 => hz (by omega), fun c1 => ?_⟩
  refine vs_ok 5 ?_
  rw [show ((gRes 67).drop 7).take 5 = [.iload 4, .aload 0, .getfield 6012, .arraylength, .if_icmp .ge 17] from rfl]
  simp only [vs_if_icmp, vs_getfield, vs_arraylength, vs_aload0, vs_iload4, vs_nil, gv_0, gv_1, gv_2, gv_3, pv_0, pv_1, va_rf_s, Nat.reduceDiv, Nat.reduceMod, Nat.reduceAdd, Nat.reduceMul, Int.reduceToNat, true_and, and_true, and_self, cP_eq, cP_ne, cP_lt, cP_ge, cP_gt, cP_le, eL_i, eL_l, eL_r, eL_n, Option.toList_none, Option.toList_some, List.nil_append, List.cons_append, h1, h2, h3, h4, h5, h7, or_true, true_or]
  rw [show Int32.ofNat (2 * rc + 1) = iI ((2 * rc + 1 : Nat) : Int) from nI_iI _, iI_le (by constructor <;> omega) b1]
  refine ⟨fun c2 => hz (by omega), fun c2 => ?_⟩
  refine vs_ok 6 ?_
  rw [show ((gRes 67).drop 12).take 6 = [.aload 0, .getfield 6012, .iload 4, .lload 2, .lastore, .return_] from rfl]
  simp only [vs_getfield, vs_lastore, vs_return_, vs_aload0, vs_lload2, vs_iload4, vs_nil, gv_0, gv_1, gv_2, gv_3, pv_0, pv_1, va_rf_s, Nat.reduceDiv, Nat.reduceMod, Nat.reduceAdd, Nat.reduceMul, Int.reduceToNat, true_and, and_true, and_self, cP_eq, cP_ne, cP_lt, cP_ge, cP_gt, cP_le, eL_i, eL_l, eL_r, eL_n, Option.toList_none, Option.toList_some, List.nil_append, List.cons_append, h1, h2, h3, h4, h5, h7]
  refine ⟨(inB_iI b1).mpr ⟨by omega, by omega⟩, by decide, hq _ (fr_J rfl) fun m => ?_⟩
  rw [iI_nat b1 (by omega)]
  unfold wAt
  rw [zJ_sJ]
  by_cases hm : -rc ≤ m ∧ m ≤ rc
  · rw [if_pos hm, if_pos hm]
    by_cases hmn : m = n
    · subst hmn
      rw [if_pos ⟨rfl, rfl⟩, if_pos ⟨rfl, hm⟩]
    · rw [if_neg (fun z => hmn (by have := z.2; omega)), if_neg (fun z => hmn z.1)]
  · rw [if_neg hm, if_neg hm, if_neg (fun z => hm (by rw [z.1]; exact z.2))]
theorem t_blank {d : Nat} {h : Hp} {r rc : Nat} {lo hi : Int} {a b : Int32} {t : Int64} {Q : Nat → Option Value → Hp → Prop} (hr : isRow h r rc) (hlo : zI h r 2 = iI lo) (hhi : zI h r 3 = iI hi) (hb : -rc ≤ lo ∧ hi ≤ rc ∧ lo ≤ hi + 1) (hz : ∀ m, ¬ (lo ≤ m ∧ m ≤ hi) → wAt h (r + 1) rc m = 0)
    (hq : ∀ h', fr (fun q => q = r ∨ q = r + 1) h h' → isRow h' r rc → zI h' r 2 = a → zI h' r 3 = b → zJ h' r 4 = t → (∀ m, wAt h' (r + 1) rc m = 0) → Q 0 none h') : PR (d + 1) m_Row_blank [.ref r, .int a, .int b, .long t] h Q := by
  have hr0 := hr
  obtain ⟨h1, h2, h3, h4, h5, h6, h7, h8⟩ := hr
  show PW (d + 1) 68 0 [some (.ref r), some (.int a), some (.int b), some (.long t), none, none] [] h Q
  refine vs_ok 8 ?_
  rw [show ((gRes 68).drop 0).take 8 = [.iconst 0, .aload 0, .getfield 6020, .aload 0, .getfield 6000, .iadd, .invokedynamic 2, .istore 5] from rfl]
  simp only [vs_iadd, vs_iconst, vs_getfield, vs_aload0, vs_istore5n, vs_istore5i, vs_istore5r, vs_istore5l, vs_nil, gv_0, gv_1, gv_2, gv_3, pv_0, pv_1, va_rf_s, vs_abs, vs_max, vs_min, vs_oinit, Nat.reduceDiv, Nat.reduceMod, Nat.reduceAdd, Nat.reduceMul, Int.reduceToNat, true_and, and_true, and_self, cP_eq, cP_ne, cP_lt, cP_ge, cP_gt, cP_le, eL_i, eL_l, eL_r, eL_n, Option.toList_none, Option.toList_some, List.nil_append, List.cons_append, h1, h2, hlo, h6, iI_add]
  have emax : (if iI 0 < iI (lo + rc) then iI (lo + rc) else iI 0) = iI (lo + rc) := by
    by_cases c : iI 0 < iI (lo + rc)
    · rw [if_pos c]
    · rw [if_neg c]
      rw [iI_lt (by constructor <;> omega) (by constructor <;> omega)] at c
      rw [show lo + (rc : Int) = 0 by omega]
  rw [emax]
  refine ⟨le_b rfl, ?_⟩
  -- the loop
  have loop : ∀ (k : Nat) (n : Int) (g : Hp), k = (hi + 1 - n).toNat → lo ≤ n → n ≤ hi + 1 → fr (fun q => q = r + 1) h g → (∀ m, wAt g (r + 1) rc m = if m < n then 0 else wAt h (r + 1) rc m) → PW (d + 1) 68 8 [some (.ref r), some (.int a), some (.int b), some (.long t), none, some (.int (iI (n + rc)))] [] g Q := by
    intro k
    induction k with
    | zero =>
      intro n g hk hn1 hn2 hf hw
      have hgI : zI g r = zI h r := hf.2.2.2.2.2.1 r (by omega)
      have hgR : zR g r = zR h r := hf.2.2.2.2.2.2.2 r (by omega)
      have hgr := hr0.fr hf (by rw [hgI]) (by rw [hgR])
      obtain ⟨g1, g2, g3, g4, g5, g6, g7, g8⟩ := hgr
      refine vs_ok 7 ?_
      rw [show ((gRes 68).drop 8).take 7 = [.iload 5, .aload 0, .getfield 6030, .aload 0, .getfield 6000, .iadd, .if_icmp .gt 27] from rfl]
      simp only [vs_iadd, vs_if_icmp, vs_getfield, vs_aload0, vs_iload5, vs_nil, gv_0, gv_1, gv_2, gv_3, pv_0, pv_1, va_rf_s, Nat.reduceDiv, Nat.reduceMod, Nat.reduceAdd, Nat.reduceMul, Int.reduceToNat, true_and, and_true, and_self, cP_eq, cP_ne, cP_lt, cP_ge, cP_gt, cP_le, eL_i, eL_l, eL_r, eL_n, Option.toList_none, Option.toList_some, List.nil_append, List.cons_append, g1, g2, hgI, hhi, h6, iI_add]
      rw [iI_lt (by constructor <;> omega) (by constructor <;> omega)]
      refine ⟨fun _ => ?_, fun c => absurd (show hi + (rc : Int) < n + rc by omega) c⟩
      refine vs_ok 10 ?_
      rw [show ((gRes 68).drop 27).take 10 = [.aload 0, .iload 1, .putfield 6020, .aload 0, .iload 2, .putfield 6030, .aload 0, .lload 3, .putfield 6041, .return_] from rfl]
      simp only [vs_putfield, vs_return_, vs_aload0, vs_iload1, vs_iload2, vs_lload3, vs_nil, gv_0, gv_1, gv_2, gv_3, pv_0, pv_1, va_rf_s, Nat.reduceDiv, Nat.reduceMod, Nat.reduceAdd, Nat.reduceMul, Int.reduceToNat, true_and, and_true, and_self, cP_eq, cP_ne, cP_lt, cP_ge, cP_gt, cP_le, eL_i, eL_l, eL_r, eL_n, Option.toList_none, Option.toList_some, List.nil_append, List.cons_append, g1, g2]
      have k1 : ∀ i x, zK (zsI g r i x) = zK g := fun _ _ => rfl
      refine ⟨_, rfl, ⟨g1, g2⟩, _, rfl, ⟨g1, g2⟩, _, rfl, by decide, ?_⟩
      have f2 : fr (fun q => q = r ∨ q = r + 1) h (zsJ (zsI (zsI g r 2 a) r 3 b) r 4 t) := (hf.wk (fun _ z => Or.inr z)).tr (((fr_I (Or.inl rfl)).tr (fr_I (Or.inl rfl))).tr (fr_J (Or.inl rfl)))
      refine hq _ f2 (hr0.fr f2 ?_ ?_) ?_ ?_ ?_ fun m => ?_
      · show zI (zsI (zsI g r 2 a) r 3 b) r 0 = _
        rw [zI_sI, if_neg (by omega), zI_sI, if_neg (by omega), hgI]
      · show zR g r 1 = _
        rw [hgR]
      · show zI (zsI (zsI g r 2 a) r 3 b) r 2 = _
        rw [zI_sI, if_neg (by omega), zI_sI, if_pos ⟨rfl, rfl⟩]
      · show zI (zsI (zsI g r 2 a) r 3 b) r 3 = _
        rw [zI_sI, if_pos ⟨rfl, rfl⟩]
      · rw [zJ_sJ, if_pos ⟨rfl, rfl⟩]
      · have : wAt (zsJ (zsI (zsI g r 2 a) r 3 b) r 4 t) (r + 1) rc m = wAt g (r + 1) rc m := wAt_eq (zsJ_o (by omega))
        rw [this, hw]
        split
        · rfl
        · exact hz m (by omega)
    | succ k ih =>
      intro n g hk hn1 hn2 hf hw
      have hgI : zI g r = zI h r := hf.2.2.2.2.2.1 r (by omega)
      have hgR : zR g r = zR h r := hf.2.2.2.2.2.2.2 r (by omega)
      have hgr := hr0.fr hf (by rw [hgI]) (by rw [hgR])
      have b1 : i32 (n + rc) := by constructor <;> omega
      obtain ⟨g1, g2, g3, g4, g5, g6, g7, g8⟩ := hgr
      refine vs_ok 7 ?_
      rw [show ((gRes 68).drop 8).take 7 = [.iload 5, .aload 0, .getfield 6030, .aload 0, .getfield 6000, .iadd, .if_icmp .gt 27] from rfl]
      simp only [vs_iadd, vs_if_icmp, vs_getfield, vs_aload0, vs_iload5, vs_nil, gv_0, gv_1, gv_2, gv_3, pv_0, pv_1, va_rf_s, Nat.reduceDiv, Nat.reduceMod, Nat.reduceAdd, Nat.reduceMul, Int.reduceToNat, true_and, and_true, and_self, cP_eq, cP_ne, cP_lt, cP_ge, cP_gt, cP_le, eL_i, eL_l, eL_r, eL_n, Option.toList_none, Option.toList_some, List.nil_append, List.cons_append, g1, g2, hgI, hhi, h6, iI_add]
      rw [iI_lt (by constructor <;> omega) (by constructor <;> omega)]
      refine ⟨fun c => absurd c (by omega), fun _ => ?_⟩
      refine vs_ok 5 ?_
      rw [show ((gRes 68).drop 15).take 5 = [.iload 5, .aload 0, .getfield 6012, .arraylength, .if_icmp .ge 27] from rfl]
      simp only [vs_if_icmp, vs_getfield, vs_arraylength, vs_aload0, vs_iload5, vs_nil, gv_0, gv_1, gv_2, gv_3, pv_0, pv_1, va_rf_s, Nat.reduceDiv, Nat.reduceMod, Nat.reduceAdd, Nat.reduceMul, Int.reduceToNat, true_and, and_true, and_self, cP_eq, cP_ne, cP_lt, cP_ge, cP_gt, cP_le, eL_i, eL_l, eL_r, eL_n, Option.toList_none, Option.toList_some, List.nil_append, List.cons_append, g1, g2, g3, g4, g5, g7, or_true, true_or]
      rw [show Int32.ofNat (2 * rc + 1) = iI ((2 * rc + 1 : Nat) : Int) from nI_iI _, iI_le (by constructor <;> omega) b1]
      refine ⟨fun c => absurd c (by omega), fun _ => ?_⟩
      refine vs_ok 7 ?_
      rw [show ((gRes 68).drop 20).take 7 = [.aload 0, .getfield 6012, .iload 5, .jsr_w 0, .lastore, .iinc 5 1, .goto 8] from rfl]
      simp only [vs_jsr_w, vs_goto, vs_getfield, vs_lastore, vs_aload0, vs_iload5, vs_iinc5n, vs_iinc5i, vs_iinc5r, vs_iinc5l, vs_nil, gv_0, gv_1, gv_2, gv_3, pv_0, pv_1, va_rf_s, Nat.reduceDiv, Nat.reduceMod, Nat.reduceAdd, Nat.reduceMul, Int.reduceToNat, true_and, and_true, and_self, cP_eq, cP_ne, cP_lt, cP_ge, cP_gt, cP_le, eL_i, eL_l, eL_r, eL_n, Option.toList_none, Option.toList_some, List.nil_append, List.cons_append, g1, g2, g3, g4, g5, g7, iI_add]
      refine ⟨(inB_iI b1).mpr ⟨by omega, by omega⟩, ?_⟩
      rw [iI_nat b1 (by omega), show n + (rc : Int) + 1 = (n + 1) + rc by omega]
      refine ih (n + 1) _ (by omega) (by omega) (by omega) (hf.tr (fr_J rfl)) fun m => ?_
      have hw2 := hw m
      unfold wAt at hw2 ⊢
      rw [zJ_sJ]
      by_cases hm : -rc ≤ m ∧ m ≤ rc
      · rw [if_pos hm, if_pos hm] at hw2
        rw [if_pos hm, if_pos hm]
        by_cases hmn : m = n
        · subst hmn
          rw [if_pos ⟨rfl, rfl⟩, if_pos (by omega)]
          rfl
        · rw [if_neg (fun z => hmn (by have := z.2; omega)), hw2]
          by_cases hm2 : m < n
          · rw [if_pos hm2, if_pos (by omega)]
          · rw [if_neg hm2, if_neg (by omega)]
      · rw [if_neg hm, if_neg hm]
        split <;> rfl
  refine loop _ lo h rfl (by omega) (by omega) fr.rf fun m => ?_
  split
  · exact hz m (by omega)
  · rfl
/-- what row r holds: its least and greatest number, ALL, WAYS of each number -/
def rowV (h : Hp) (r rc : Nat) (lo hi tot : Int) (W : Int → Int) : Prop := isRow h r rc ∧ zI h r 2 = iI lo ∧ zI h r 3 = iI hi ∧ zJ h r 4 = lI tot ∧ (-rc ≤ lo ∧ hi ≤ rc ∧ lo ≤ hi) ∧ (∀ m, wAt h (r + 1) rc m = lI (W m)) ∧ ∀ m, ¬ (lo ≤ m ∧ m ≤ hi) → W m = 0
theorem rowV.keep {S : Nat → Prop} {h h' : Hp} {r rc : Nat} {lo hi tot : Int} {W : Int → Int} (hv : rowV h r rc lo hi tot W) (hf : fr S h h') (h1 : ¬ S r) (h2 : ¬ S (r + 1)) : rowV h' r rc lo hi tot W := by
  obtain ⟨v1, v2, v3, v4, v5, v6, v7⟩ := hv
  have eI := hf.2.2.2.2.2.1 r h1
  have eJ := hf.2.2.2.2.2.2.1 r h1
  have eR := hf.2.2.2.2.2.2.2 r h1
  exact ⟨v1.fr hf (by rw [eI]) (by rw [eR]), by rw [eI]; exact v2, by rw [eI]; exact v3, by rw [eJ]; exact v4, v5, fun m => by rw [wAt_eq (hf.2.2.2.2.2.2.1 (r + 1) h2)]; exact v6 m, v7⟩
theorem rowV.z {h : Hp} {r rc : Nat} {lo hi tot : Int} {W : Int → Int} (hv : rowV h r rc lo hi tot W) : ∀ m, ¬ (lo ≤ m ∧ m ≤ hi) → wAt h (r + 1) rc m = 0 := fun m hm => by
  rw [hv.2.2.2.2.2.1 m, hv.2.2.2.2.2.2 m hm]
  rfl
/-- the cells of row r -/
abbrev rS (r : Nat) : Nat → Prop := fun q => q = r ∨ q = r + 1
theorem t_blankV {d : Nat} {h : Hp} {r rc : Nat} {lo hi tot : Int} {W : Int → Int} {a b : Int32} {t : Int64} {Q : Nat → Option Value → Hp → Prop} (hv : rowV h r rc lo hi tot W)
    (hq : ∀ h', fr (rS r) h h' → isRow h' r rc → zI h' r 2 = a → zI h' r 3 = b → zJ h' r 4 = t → (∀ m, wAt h' (r + 1) rc m = 0) → Q 0 none h') : PR (d + 1) m_Row_blank [.ref r, .int a, .int b, .long t] h Q := by
  have hz := hv.z
  obtain ⟨v1, v2, v3, v4, v5, v6, v7⟩ := hv
  exact t_blank v1 v2 v3 ⟨v5.1, v5.2.1, by omega⟩ hz hq
theorem t_takeNumber {d : Nat} {h : Hp} {r rc : Nat} {lo hi tot n : Int} {W : Int → Int} {Q : Nat → Option Value → Hp → Prop} (hv : rowV h r rc lo hi tot W) (hn : -rc ≤ n ∧ n ≤ rc)
    (hq : ∀ h', fr (rS r) h h' → rowV h' r rc n n 1 (fun m => if m = n then 1 else 0) → Q 0 none h') : PR (d + 2) m_Row_takeNumber [.ref r, .int (iI n)] h Q := by
  have hrc := hv.1.2.2.2.2.2.2.2
  show PW (d + 2) 69 0 [some (.ref r), some (.int (iI n))] [] h Q
  refine vs_ok 4 ?_
  rw [show ((gRes 69).drop 0).take 4 = [.aload 0, .iload 1, .iload 1, .jsr_w 1] from rfl]
  simp only [vs_jsr_w, vs_aload0, vs_iload1, vs_nil, gv_0, gv_1, gv_2, gv_3, pv_0, pv_1, va_rf_s, Nat.reduceDiv, Nat.reduceMod, Nat.reduceAdd, Nat.reduceMul, Int.reduceToNat, true_and, and_true, and_self, cP_eq, cP_ne, cP_lt, cP_ge, cP_gt, cP_le, eL_i, eL_l, eL_r, eL_n, Option.toList_none, Option.toList_some, List.nil_append, List.cons_append]
  refine PW.iv rfl rfl rfl hv.1.1 hv.1.2.1 (le_b rfl) (le_b rfl) ?_
  refine t_blankV hv fun g f1 g1 g2 g3 g4 g5 => ⟨rfl, ⟨f1.2.2.1, rfl⟩, ?_⟩
  refine vs_ok 3 ?_
  rw [show ((gRes 69).drop 5).take 3 = [.aload 0, .iload 1, .jsr_w 1] from rfl]
  simp only [vs_jsr_w, vs_aload0, vs_iload1, vs_nil, gv_0, gv_1, gv_2, gv_3, pv_0, pv_1, va_rf_s, Nat.reduceDiv, Nat.reduceMod, Nat.reduceAdd, Nat.reduceMul, Int.reduceToNat, true_and, and_true, and_self, cP_eq, cP_ne, cP_lt, cP_ge, cP_gt, cP_le, eL_i, eL_l, eL_r, eL_n, Option.toList_none, Option.toList_some, List.nil_append, List.cons_append]
  refine PW.iv rfl rfl rfl g1.1 g1.2.1 (le_b rfl) (le_b rfl) ?_
  refine t_put g1 ⟨by omega, by omega⟩ fun g' f2 w2 => ⟨rfl, ⟨f2.2.2.1, rfl⟩, ?_⟩
  refine vs_ok 1 ?_
  rw [show ((gRes 69).drop 9).take 1 = [.return_] from rfl]
  simp only [vs_return_, vs_nil, gv_0, gv_1, gv_2, gv_3, pv_0, pv_1, va_rf_s, Nat.reduceDiv, Nat.reduceMod, Nat.reduceAdd, Nat.reduceMul, Int.reduceToNat, true_and, and_true, and_self, cP_eq, cP_ne, cP_lt, cP_ge, cP_gt, cP_le, eL_i, eL_l, eL_r, eL_n, Option.toList_none, Option.toList_some, List.nil_append, List.cons_append]
  have eI := f2.2.2.2.2.2.1 r (by omega)
  have eJ := f2.2.2.2.2.2.2.1 r (by omega)
  have eR := f2.2.2.2.2.2.2.2 r (by omega)
  refine ⟨by decide, hq g' (f1.tr (f2.wk fun _ z => Or.inr z)) ⟨g1.fr f2 (by rw [eI]) (by rw [eR]), by rw [eI]; exact g2, by rw [eI]; exact g3, by rw [eJ]; exact g4, ⟨hn.1, hn.2, by omega⟩, fun m => ?_, fun m hm => if_neg (by omega)⟩⟩
  rw [w2, g5]
  by_cases hm : m = n
  · show _ = lI (if m = n then 1 else 0)
    rw [if_pos ⟨hm, hn⟩, if_pos hm]
  · show _ = lI (if m = n then 1 else 0)
    rw [if_neg (fun z => hm z.1), if_neg hm]
    rfl
