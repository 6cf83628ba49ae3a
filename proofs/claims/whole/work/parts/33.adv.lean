/-! Reader: advance, start -/
def skF (B : Nat → Int) (len L : Int) : Nat → Int → Int
  | 0, i => i
  | k + 1, i => if byV B len i = 32 ∨ byV B len i = 10 then skF B len L k (i + 1) else i
theorem skF_s {B : Nat → Int} {len L : Int} {k : Nat} {i : Int} : skF B len L (k + 1) i = (if byV B len i = 32 ∨ byV B len i = 10 then skF B len L k (i + 1) else i) := rfl
theorem skF_b {B : Nat → Int} {len L : Int} : ∀ (k : Nat) (i : Int), i ≤ skF B len L k i ∧ skF B len L k i ≤ i + k
  | 0, i => by
    unfold skF
    omega
  | k + 1, i => by
    rw [skF_s]
    split
    · have := skF_b (B := B) (len := len) (L := L) k (i + 1)
      omega
    · omega
/-- following, kind, value, place behind the next TOKEN -/
def adF (B : Nat → Int) (len fo va : Int) : Int × Int × Int × Int :=
  let L := min len 500
  let a := skF B len L (L - fo).toNat fo
  if L ≤ a then (L, 0, va, L) else
    if (97 ≤ byV B len a ∧ byV B len a ≤ 122) ∨ (48 ≤ byV B len a ∧ byV B len a ≤ 57) then
      let x := rnF B len (len - a).toNat a 0 0 0 0
      (x.2.2.2.2, rnK x, rnV x, a)
    else (a + 1, if byV B len a = 40 ∨ byV B len a = 41 ∨ byV B len a = 43 ∨ byV B len a = 44 ∨ byV B len a = 45 ∨ byV B len a = 46 ∨ byV B len a = 59 ∨ byV B len a = 61 then 4 else 1, byV B len a, a)
theorem rdS.set2 {h : Hp} {rd tx : Nat} {len fo ki va pl x : Int} {B : Nat → Int} (hr : rdS h rd tx len B fo ki va pl) : rdS (zsI h rd 2 (iI x)) rd tx len B x ki va pl := by
  refine hr.upd (fr_I rfl) rfl ?_ ?_ ?_ ?_ ?_
  · rw [zI_sI, if_neg (by omega)]
  · rw [zI_sI, if_pos ⟨rfl, rfl⟩]
  · rw [zI_sI, if_neg (by omega)]; exact hr.2.2.2.2.2.2.2.1
  · rw [zI_sI, if_neg (by omega)]; exact hr.2.2.2.2.2.2.2.2.1
  · rw [zI_sI, if_neg (by omega)]; exact hr.2.2.2.2.2.2.2.2.2
theorem rdS.set3 {h : Hp} {rd tx : Nat} {len fo ki va pl x : Int} {B : Nat → Int} (hr : rdS h rd tx len B fo ki va pl) : rdS (zsI h rd 3 (iI x)) rd tx len B fo x va pl := by
  refine hr.upd (fr_I rfl) rfl ?_ ?_ ?_ ?_ ?_
  · rw [zI_sI, if_neg (by omega)]
  · rw [zI_sI, if_neg (by omega)]; exact hr.2.2.2.2.2.2.1
  · rw [zI_sI, if_pos ⟨rfl, rfl⟩]
  · rw [zI_sI, if_neg (by omega)]; exact hr.2.2.2.2.2.2.2.2.1
  · rw [zI_sI, if_neg (by omega)]; exact hr.2.2.2.2.2.2.2.2.2
theorem rdS.set4 {h : Hp} {rd tx : Nat} {len fo ki va pl x : Int} {B : Nat → Int} (hr : rdS h rd tx len B fo ki va pl) : rdS (zsI h rd 4 (iI x)) rd tx len B fo ki x pl := by
  refine hr.upd (fr_I rfl) rfl ?_ ?_ ?_ ?_ ?_
  · rw [zI_sI, if_neg (by omega)]
  · rw [zI_sI, if_neg (by omega)]; exact hr.2.2.2.2.2.2.1
  · rw [zI_sI, if_neg (by omega)]; exact hr.2.2.2.2.2.2.2.1
  · rw [zI_sI, if_pos ⟨rfl, rfl⟩]
  · rw [zI_sI, if_neg (by omega)]; exact hr.2.2.2.2.2.2.2.2.2
theorem rdS.set5 {h : Hp} {rd tx : Nat} {len fo ki va pl x : Int} {B : Nat → Int} (hr : rdS h rd tx len B fo ki va pl) : rdS (zsI h rd 5 (iI x)) rd tx len B fo ki va x := by
  refine hr.upd (fr_I rfl) rfl ?_ ?_ ?_ ?_ ?_
  · rw [zI_sI, if_neg (by omega)]
  · rw [zI_sI, if_neg (by omega)]; exact hr.2.2.2.2.2.2.1
  · rw [zI_sI, if_neg (by omega)]; exact hr.2.2.2.2.2.2.2.1
  · rw [zI_sI, if_neg (by omega)]; exact hr.2.2.2.2.2.2.2.2.1
  · rw [zI_sI, if_pos ⟨rfl, rfl⟩]
theorem t_advance {d : Nat} {h : Hp} {rd tx : Nat} {len fo ki va pl : Int} {B : Nat → Int} {Q : Nat → Option Value → Hp → Prop} (hr : rdS h rd tx len B fo ki va pl) (hfo : 0 ≤ fo ∧ fo ≤ 540)
    (hq : ∀ h', fr (fun q => q = rd) h h' → rdS h' rd tx len B (adF B len fo va).1 (adF B len fo va).2.1 (adF B len fo va).2.2.1 (adF B len fo va).2.2.2 → Q 0 none h') : PR (d + 2) m_Reader_advance [.ref rd] h Q := by
  obtain ⟨r1, r2, r3, r4, r5, r6, r7, r8, r9, r10⟩ := id hr
  have hB := r4.2.2.2.2
  unfold adF at hq
  dsimp only at hq
  obtain ⟨L, hL⟩ : ∃ L, L = min len 500 := ⟨_, rfl⟩
  rw [← hL] at hq
  show PW (d + 2) 60 0 [some (.ref rd), none, none] [] h Q
  refine vs_ok 5 ?_
  rw [show ((gRes 60).drop 0).take 5 = [.aload 0, .getfield 5010, .iconst 500, .invokedynamic 3, .istore 1] from rfl]
  simp only [vs_iconst, vs_getfield, vs_aload0, vs_istore1n, vs_istore1i, vs_istore1r, vs_istore1l, vs_nil, gv_0, gv_1, gv_2, gv_3, pv_0, pv_1, va_rf_s, vs_abs, vs_max, vs_min, vs_oinit, Nat.reduceDiv, Nat.reduceMod, Nat.reduceAdd, Nat.reduceMul, Int.reduceToNat, true_and, and_true, and_self, cP_eq, cP_ne, cP_lt, cP_ge, cP_gt, cP_le, eL_i, eL_l, eL_r, eL_n, Option.toList_none, Option.toList_some, List.nil_append, List.cons_append, r1, r2, r5]
  rw [show Int32.ofInt 500 = iI 500 from rfl, imin (by constructor <;> omega) (by constructor <;> omega), ← hL]
  refine ⟨le_b rfl, ?_⟩
  refine vs_ok 3 ?_
  rw [show ((gRes 60).drop 5).take 3 = [.aload 0, .getfield 5020, .istore 2] from rfl]
  simp only [vs_getfield, vs_aload0, vs_istore2n, vs_istore2i, vs_istore2r, vs_istore2l, vs_nil, gv_0, gv_1, gv_2, gv_3, pv_0, pv_1, va_rf_s, Nat.reduceDiv, Nat.reduceMod, Nat.reduceAdd, Nat.reduceMul, Int.reduceToNat, true_and, and_true, and_self, cP_eq, cP_ne, cP_lt, cP_ge, cP_gt, cP_le, eL_i, eL_l, eL_r, eL_n, Option.toList_none, Option.toList_some, List.nil_append, List.cons_append, r1, r2, r7]
  have hbk := skF_b (B := B) (len := len) (L := L) (L - fo).toNat fo
  have fin : ∀ a : Int, a = skF B len L (L - fo).toNat fo → PW (d + 2) 60 23 [some (.ref rd), some (.int (iI L)), some (.int (iI a))] [] h Q := fun a ha => by
    rw [← ha] at hq hbk
    refine vs_ok 3 ?_
    rw [show ((gRes 60).drop 23).take 3 = [.iload 2, .iload 1, .if_icmp .lt 36] from rfl]
    simp only [vs_if_icmp, vs_iload1, vs_iload2, vs_nil, gv_0, gv_1, gv_2, gv_3, pv_0, pv_1, va_rf_s, Nat.reduceDiv, Nat.reduceMod, Nat.reduceAdd, Nat.reduceMul, Int.reduceToNat, true_and, and_true, and_self, cP_eq, cP_ne, cP_lt, cP_ge, cP_gt, cP_le, eL_i, eL_l, eL_r, eL_n, Option.toList_none, Option.toList_some, List.nil_append, List.cons_append]
    rw [iI_lt (by constructor <;> omega) (by constructor <;> omega)]
    refine ⟨fun c => ?_, fun c => ?_⟩
    · rw [if_neg (by omega)] at hq
      refine vs_ok 3 ?_
      rw [show ((gRes 60).drop 36).take 3 = [.aload 0, .iload 2, .putfield 5050] from rfl]
      simp only [vs_putfield, vs_aload0, vs_iload2, vs_nil, gv_0, gv_1, gv_2, gv_3, pv_0, pv_1, va_rf_s, Nat.reduceDiv, Nat.reduceMod, Nat.reduceAdd, Nat.reduceMul, Int.reduceToNat, true_and, and_true, and_self, cP_eq, cP_ne, cP_lt, cP_ge, cP_gt, cP_le, eL_i, eL_l, eL_r, eL_n, Option.toList_none, Option.toList_some, List.nil_append, List.cons_append, r1, r2]
      refine ⟨_, rfl, ?_⟩
      have hr1 := hr.set5 (x := a)
      have f1 : fr (fun q => q = rd) h (zsI h rd 5 (iI a)) := fr_I rfl
      generalize zsI h rd 5 (iI a) = g1 at hr1 f1
      have hb := byV_b (len := len) (i := a) hB
      have b32 : i32 (byV B len a) := by constructor <;> omega
      have i32a : i32 a := by constructor <;> omega
      have p49 : ((97 ≤ byV B len a ∧ byV B len a ≤ 122) ∨ (48 ≤ byV B len a ∧ byV B len a ≤ 57)) → PW (d + 2) 60 49 [some (.ref rd), some (.int (iI L)), some (.int (iI a))] [] g1 Q := fun hc => by
        rw [if_pos hc] at hq
        refine vs_ok 2 ?_
        rw [show ((gRes 60).drop 49).take 2 = [.aload 0, .invokevirtual 61] from rfl]
        simp only [vs_iv, vs_aload0, vs_nil, gv_0, gv_1, gv_2, gv_3, pv_0, pv_1, va_rf_s, Nat.reduceDiv, Nat.reduceMod, Nat.reduceAdd, Nat.reduceMul, Int.reduceToNat, true_and, and_true, and_self, cP_eq, cP_ne, cP_lt, cP_ge, cP_gt, cP_le, eL_i, eL_l, eL_r, eL_n, Option.toList_none, Option.toList_some, List.nil_append, List.cons_append]
        refine PW.iv rfl rfl rfl hr1.1 hr1.2.1 (le_b rfl) (le_b rfl) ?_
        refine t_readRun hr1 ⟨by omega, by omega⟩ fun g2 f2 hr2 => ⟨rfl, ⟨f2.2.2.1, rfl⟩, ?_⟩
        refine vs_ok 1 ?_
        rw [show ((gRes 60).drop 51).take 1 = [.goto 71] from rfl]
        simp only [vs_goto, vs_nil, gv_0, gv_1, gv_2, gv_3, pv_0, pv_1, va_rf_s, Nat.reduceDiv, Nat.reduceMod, Nat.reduceAdd, Nat.reduceMul, Int.reduceToNat, true_and, and_true, and_self, cP_eq, cP_ne, cP_lt, cP_ge, cP_gt, cP_le, eL_i, eL_l, eL_r, eL_n, Option.toList_none, Option.toList_some, List.nil_append, List.cons_append]
        refine vs_ok 1 ?_
        rw [show ((gRes 60).drop 71).take 1 = [.return_] from rfl]
        simp only [vs_return_, vs_nil, gv_0, gv_1, gv_2, gv_3, pv_0, pv_1, va_rf_s, Nat.reduceDiv, Nat.reduceMod, Nat.reduceAdd, Nat.reduceMul, Int.reduceToNat, true_and, and_true, and_self, cP_eq, cP_ne, cP_lt, cP_ge, cP_gt, cP_le, eL_i, eL_l, eL_r, eL_n, Option.toList_none, Option.toList_some, List.nil_append, List.cons_append]
        exact ⟨by decide, hq g2 (f1.tr f2) hr2⟩
      have p52 : ¬ ((97 ≤ byV B len a ∧ byV B len a ≤ 122) ∨ (48 ≤ byV B len a ∧ byV B len a ≤ 57)) → PW (d + 2) 60 52 [some (.ref rd), some (.int (iI L)), some (.int (iI a))] [] g1 Q := fun hc => by
        rw [if_neg hc] at hq
        refine vs_ok 4 ?_
        rw [show ((gRes 60).drop 52).take 4 = [.aload 0, .aload 0, .iload 2, .invokevirtual 59] from rfl]
        simp only [vs_iv, vs_aload0, vs_iload2, vs_nil, gv_0, gv_1, gv_2, gv_3, pv_0, pv_1, va_rf_s, Nat.reduceDiv, Nat.reduceMod, Nat.reduceAdd, Nat.reduceMul, Int.reduceToNat, true_and, and_true, and_self, cP_eq, cP_ne, cP_lt, cP_ge, cP_gt, cP_le, eL_i, eL_l, eL_r, eL_n, Option.toList_none, Option.toList_some, List.nil_append, List.cons_append]
        refine PW.iv rfl rfl rfl hr1.1 hr1.2.1 (le_b rfl) (le_b rfl) ?_
        refine t_byteAt hr1 i32a ⟨rfl, ⟨rfl, rfl⟩, ?_⟩
        refine vs_ok 1 ?_
        rw [show ((gRes 60).drop 56).take 1 = [.putfield 5040] from rfl]
        simp only [vs_putfield, vs_nil, gv_0, gv_1, gv_2, gv_3, pv_0, pv_1, va_rf_s, Nat.reduceDiv, Nat.reduceMod, Nat.reduceAdd, Nat.reduceMul, Int.reduceToNat, true_and, and_true, and_self, cP_eq, cP_ne, cP_lt, cP_ge, cP_gt, cP_le, eL_i, eL_l, eL_r, eL_n, Option.toList_none, Option.toList_some, List.nil_append, List.cons_append, hr1.1, hr1.2.1]
        refine ⟨_, rfl, ?_⟩
        have hr2 := hr1.set4 (x := byV B len a)
        have f2 : fr (fun q => q = rd) g1 (zsI g1 rd 4 (iI (byV B len a))) := fr_I rfl
        generalize zsI g1 rd 4 (iI (byV B len a)) = g2 at hr2 f2
        refine vs_ok 4 ?_
        rw [show ((gRes 60).drop 57).take 4 = [.aload 0, .aload 0, .getfield 5040, .invokestatic 64] from rfl]
        simp only [vs_getfield, vs_ist, vs_aload0, vs_nil, gv_0, gv_1, gv_2, gv_3, pv_0, pv_1, va_rf_s, Nat.reduceDiv, Nat.reduceMod, Nat.reduceAdd, Nat.reduceMul, Int.reduceToNat, true_and, and_true, and_self, cP_eq, cP_ne, cP_lt, cP_ge, cP_gt, cP_le, eL_i, eL_l, eL_r, eL_n, Option.toList_none, Option.toList_some, List.nil_append, List.cons_append, hr2.1, hr2.2.1, hr2.2.2.2.2.2.2.2.2.1]
        have p65 : ∀ K : Int, K = (if byV B len a = 40 ∨ byV B len a = 41 ∨ byV B len a = 43 ∨ byV B len a = 44 ∨ byV B len a = 45 ∨ byV B len a = 46 ∨ byV B len a = 59 ∨ byV B len a = 61 then 4 else 1) → PW (d + 2) 60 65 [some (.ref rd), some (.int (iI L)), some (.int (iI a))] [.int (iI K), .ref rd] g2 Q := fun K hK => by
          rw [← hK] at hq
          refine vs_ok 1 ?_
          rw [show ((gRes 60).drop 65).take 1 = [.putfield 5030] from rfl]
          simp only [vs_putfield, vs_nil, gv_0, gv_1, gv_2, gv_3, pv_0, pv_1, va_rf_s, Nat.reduceDiv, Nat.reduceMod, Nat.reduceAdd, Nat.reduceMul, Int.reduceToNat, true_and, and_true, and_self, cP_eq, cP_ne, cP_lt, cP_ge, cP_gt, cP_le, eL_i, eL_l, eL_r, eL_n, Option.toList_none, Option.toList_some, List.nil_append, List.cons_append, hr2.1, hr2.2.1]
          refine ⟨_, rfl, ?_⟩
          have hr3 := hr2.set3 (x := K)
          have f3 : fr (fun q => q = rd) g2 (zsI g2 rd 3 (iI K)) := fr_I rfl
          generalize zsI g2 rd 3 (iI K) = g3 at hr3 f3
          refine vs_ok 6 ?_
          rw [show ((gRes 60).drop 66).take 6 = [.aload 0, .iload 2, .iconst 1, .iadd, .putfield 5020, .return_] from rfl]
          simp only [vs_iadd, vs_iconst, vs_putfield, vs_return_, vs_aload0, vs_iload2, vs_nil, gv_0, gv_1, gv_2, gv_3, pv_0, pv_1, va_rf_s, Nat.reduceDiv, Nat.reduceMod, Nat.reduceAdd, Nat.reduceMul, Int.reduceToNat, true_and, and_true, and_self, cP_eq, cP_ne, cP_lt, cP_ge, cP_gt, cP_le, eL_i, eL_l, eL_r, eL_n, Option.toList_none, Option.toList_some, List.nil_append, List.cons_append, hr3.1, hr3.2.1, iI_add]
          refine ⟨_, rfl, by decide, ?_⟩
          exact hq _ (f1.tr (f2.tr (f3.tr (fr_I rfl)))) hr3.set2
        refine PW.ss (r := [.ref rd]) rfl (le_b rfl) rfl rfl (le_b rfl) (le_b rfl) ?_
        refine t_isTokenSign b32 (fun z => ⟨rfl, ⟨rfl, rfl⟩, ?_⟩) (fun z => ⟨rfl, ⟨rfl, rfl⟩, ?_⟩)
        · refine vs_ok 1 ?_
          rw [show ((gRes 60).drop 61).take 1 = [.ifCond .eq 64] from rfl]
          simp only [vs_ifCond, vs_nil, gv_0, gv_1, gv_2, gv_3, pv_0, pv_1, va_rf_s, Nat.reduceDiv, Nat.reduceMod, Nat.reduceAdd, Nat.reduceMul, Int.reduceToNat, true_and, and_true, and_self, cP_eq, cP_ne, cP_lt, cP_ge, cP_gt, cP_le, eL_i, eL_l, eL_r, eL_n, Option.toList_none, Option.toList_some, List.nil_append, List.cons_append]
          refine ⟨fun c => absurd c (by decide), fun _ => ?_⟩
          refine vs_ok 2 ?_
          rw [show ((gRes 60).drop 62).take 2 = [.iconst 4, .goto 65] from rfl]
          simp only [vs_iconst, vs_goto, vs_nil, gv_0, gv_1, gv_2, gv_3, pv_0, pv_1, va_rf_s, Nat.reduceDiv, Nat.reduceMod, Nat.reduceAdd, Nat.reduceMul, Int.reduceToNat, true_and, and_true, and_self, cP_eq, cP_ne, cP_lt, cP_ge, cP_gt, cP_le, eL_i, eL_l, eL_r, eL_n, Option.toList_none, Option.toList_some, List.nil_append, List.cons_append]
          exact p65 4 (if_pos z).symm
        · refine vs_ok 1 ?_
          rw [show ((gRes 60).drop 61).take 1 = [.ifCond .eq 64] from rfl]
          simp only [vs_ifCond, vs_nil, gv_0, gv_1, gv_2, gv_3, pv_0, pv_1, va_rf_s, Nat.reduceDiv, Nat.reduceMod, Nat.reduceAdd, Nat.reduceMul, Int.reduceToNat, true_and, and_true, and_self, cP_eq, cP_ne, cP_lt, cP_ge, cP_gt, cP_le, eL_i, eL_l, eL_r, eL_n, Option.toList_none, Option.toList_some, List.nil_append, List.cons_append]
          refine ⟨fun _ => ?_, fun c => (by simp at c)⟩
          refine vs_ok 1 ?_
          rw [show ((gRes 60).drop 64).take 1 = [.iconst 1] from rfl]
          simp only [vs_iconst, vs_nil, gv_0, gv_1, gv_2, gv_3, pv_0, pv_1, va_rf_s, Nat.reduceDiv, Nat.reduceMod, Nat.reduceAdd, Nat.reduceMul, Int.reduceToNat, true_and, and_true, and_self, cP_eq, cP_ne, cP_lt, cP_ge, cP_gt, cP_le, eL_i, eL_l, eL_r, eL_n, Option.toList_none, Option.toList_some, List.nil_append, List.cons_append]
          exact p65 1 (if_neg z).symm
      refine vs_ok 3 ?_
      rw [show ((gRes 60).drop 39).take 3 = [.aload 0, .iload 2, .invokevirtual 59] from rfl]
      simp only [vs_iv, vs_aload0, vs_iload2, vs_nil, gv_0, gv_1, gv_2, gv_3, pv_0, pv_1, va_rf_s, Nat.reduceDiv, Nat.reduceMod, Nat.reduceAdd, Nat.reduceMul, Int.reduceToNat, true_and, and_true, and_self, cP_eq, cP_ne, cP_lt, cP_ge, cP_gt, cP_le, eL_i, eL_l, eL_r, eL_n, Option.toList_none, Option.toList_some, List.nil_append, List.cons_append]
      refine PW.iv rfl rfl rfl hr1.1 hr1.2.1 (le_b rfl) (le_b rfl) ?_
      refine t_byteAt hr1 i32a ⟨rfl, ⟨rfl, rfl⟩, ?_⟩
      refine vs_ok 1 ?_
      rw [show ((gRes 60).drop 42).take 1 = [.invokestatic 62] from rfl]
      simp only [vs_ist, vs_nil, gv_0, gv_1, gv_2, gv_3, pv_0, pv_1, va_rf_s, Nat.reduceDiv, Nat.reduceMod, Nat.reduceAdd, Nat.reduceMul, Int.reduceToNat, true_and, and_true, and_self, cP_eq, cP_ne, cP_lt, cP_ge, cP_gt, cP_le, eL_i, eL_l, eL_r, eL_n, Option.toList_none, Option.toList_some, List.nil_append, List.cons_append]
      refine PW.ss (r := []) rfl (le_b rfl) rfl rfl (le_b rfl) (le_b rfl) ?_
      refine t_isLetter b32 (fun z => ⟨rfl, ⟨rfl, rfl⟩, ?_⟩) (fun z => ⟨rfl, ⟨rfl, rfl⟩, ?_⟩)
      · refine vs_ok 1 ?_
        rw [show ((gRes 60).drop 43).take 1 = [.ifCond .ne 49] from rfl]
        simp only [vs_ifCond, vs_nil, gv_0, gv_1, gv_2, gv_3, pv_0, pv_1, va_rf_s, Nat.reduceDiv, Nat.reduceMod, Nat.reduceAdd, Nat.reduceMul, Int.reduceToNat, true_and, and_true, and_self, cP_eq, cP_ne, cP_lt, cP_ge, cP_gt, cP_le, eL_i, eL_l, eL_r, eL_n, Option.toList_none, Option.toList_some, List.nil_append, List.cons_append]
        exact ⟨fun _ => p49 (Or.inl z), fun c => (by simp at c)⟩
      refine vs_ok 1 ?_
      rw [show ((gRes 60).drop 43).take 1 = [.ifCond .ne 49] from rfl]
      simp only [vs_ifCond, vs_nil, gv_0, gv_1, gv_2, gv_3, pv_0, pv_1, va_rf_s, Nat.reduceDiv, Nat.reduceMod, Nat.reduceAdd, Nat.reduceMul, Int.reduceToNat, true_and, and_true, and_self, cP_eq, cP_ne, cP_lt, cP_ge, cP_gt, cP_le, eL_i, eL_l, eL_r, eL_n, Option.toList_none, Option.toList_some, List.nil_append, List.cons_append]
      refine ⟨fun c => (by simp at c), fun _ => ?_⟩
      refine vs_ok 3 ?_
      rw [show ((gRes 60).drop 44).take 3 = [.aload 0, .iload 2, .invokevirtual 59] from rfl]
      simp only [vs_iv, vs_aload0, vs_iload2, vs_nil, gv_0, gv_1, gv_2, gv_3, pv_0, pv_1, va_rf_s, Nat.reduceDiv, Nat.reduceMod, Nat.reduceAdd, Nat.reduceMul, Int.reduceToNat, true_and, and_true, and_self, cP_eq, cP_ne, cP_lt, cP_ge, cP_gt, cP_le, eL_i, eL_l, eL_r, eL_n, Option.toList_none, Option.toList_some, List.nil_append, List.cons_append]
      refine PW.iv rfl rfl rfl hr1.1 hr1.2.1 (le_b rfl) (le_b rfl) ?_
      refine t_byteAt hr1 i32a ⟨rfl, ⟨rfl, rfl⟩, ?_⟩
      refine vs_ok 1 ?_
      rw [show ((gRes 60).drop 47).take 1 = [.invokestatic 63] from rfl]
      simp only [vs_ist, vs_nil, gv_0, gv_1, gv_2, gv_3, pv_0, pv_1, va_rf_s, Nat.reduceDiv, Nat.reduceMod, Nat.reduceAdd, Nat.reduceMul, Int.reduceToNat, true_and, and_true, and_self, cP_eq, cP_ne, cP_lt, cP_ge, cP_gt, cP_le, eL_i, eL_l, eL_r, eL_n, Option.toList_none, Option.toList_some, List.nil_append, List.cons_append]
      refine PW.ss (r := []) rfl (le_b rfl) rfl rfl (le_b rfl) (le_b rfl) ?_
      refine t_isDigit b32 (fun z2 => ⟨rfl, ⟨rfl, rfl⟩, ?_⟩) (fun z2 => ⟨rfl, ⟨rfl, rfl⟩, ?_⟩)
      · refine vs_ok 1 ?_
        rw [show ((gRes 60).drop 48).take 1 = [.ifCond .eq 52] from rfl]
        simp only [vs_ifCond, vs_nil, gv_0, gv_1, gv_2, gv_3, pv_0, pv_1, va_rf_s, Nat.reduceDiv, Nat.reduceMod, Nat.reduceAdd, Nat.reduceMul, Int.reduceToNat, true_and, and_true, and_self, cP_eq, cP_ne, cP_lt, cP_ge, cP_gt, cP_le, eL_i, eL_l, eL_r, eL_n, Option.toList_none, Option.toList_some, List.nil_append, List.cons_append]
        refine ⟨fun c => absurd c (by decide), fun _ => ?_⟩
        exact p49 (Or.inr z2)
      · refine vs_ok 1 ?_
        rw [show ((gRes 60).drop 48).take 1 = [.ifCond .eq 52] from rfl]
        simp only [vs_ifCond, vs_nil, gv_0, gv_1, gv_2, gv_3, pv_0, pv_1, va_rf_s, Nat.reduceDiv, Nat.reduceMod, Nat.reduceAdd, Nat.reduceMul, Int.reduceToNat, true_and, and_true, and_self, cP_eq, cP_ne, cP_lt, cP_ge, cP_gt, cP_le, eL_i, eL_l, eL_r, eL_n, Option.toList_none, Option.toList_some, List.nil_append, List.cons_append]
        refine ⟨fun _ => ?_, fun c => (by simp at c)⟩
        exact p52 (fun w => w.elim z z2)
    · rw [if_pos (by omega)] at hq
      refine vs_ok 3 ?_
      rw [show ((gRes 60).drop 26).take 3 = [.aload 0, .iconst 0, .putfield 5030] from rfl]
      simp only [vs_iconst, vs_putfield, vs_aload0, vs_nil, gv_0, gv_1, gv_2, gv_3, pv_0, pv_1, va_rf_s, Nat.reduceDiv, Nat.reduceMod, Nat.reduceAdd, Nat.reduceMul, Int.reduceToNat, true_and, and_true, and_self, cP_eq, cP_ne, cP_lt, cP_ge, cP_gt, cP_le, eL_i, eL_l, eL_r, eL_n, Option.toList_none, Option.toList_some, List.nil_append, List.cons_append, r1, r2]
      refine ⟨_, rfl, ?_⟩
      have hr1 := hr.set3 (x := 0)
      have f1 : fr (fun q => q = rd) h (zsI h rd 3 (iI 0)) := fr_I rfl
      generalize zsI h rd 3 (iI 0) = g1 at hr1 f1
      refine vs_ok 3 ?_
      rw [show ((gRes 60).drop 29).take 3 = [.aload 0, .iload 1, .putfield 5050] from rfl]
      simp only [vs_putfield, vs_aload0, vs_iload1, vs_nil, gv_0, gv_1, gv_2, gv_3, pv_0, pv_1, va_rf_s, Nat.reduceDiv, Nat.reduceMod, Nat.reduceAdd, Nat.reduceMul, Int.reduceToNat, true_and, and_true, and_self, cP_eq, cP_ne, cP_lt, cP_ge, cP_gt, cP_le, eL_i, eL_l, eL_r, eL_n, Option.toList_none, Option.toList_some, List.nil_append, List.cons_append, hr1.1, hr1.2.1]
      refine ⟨_, rfl, ?_⟩
      have hr2 := hr1.set5 (x := L)
      have f2 : fr (fun q => q = rd) g1 (zsI g1 rd 5 (iI L)) := fr_I rfl
      generalize zsI g1 rd 5 (iI L) = g2 at hr2 f2
      refine vs_ok 4 ?_
      rw [show ((gRes 60).drop 32).take 4 = [.aload 0, .iload 1, .putfield 5020, .return_] from rfl]
      simp only [vs_putfield, vs_return_, vs_aload0, vs_iload1, vs_nil, gv_0, gv_1, gv_2, gv_3, pv_0, pv_1, va_rf_s, Nat.reduceDiv, Nat.reduceMod, Nat.reduceAdd, Nat.reduceMul, Int.reduceToNat, true_and, and_true, and_self, cP_eq, cP_ne, cP_lt, cP_ge, cP_gt, cP_le, eL_i, eL_l, eL_r, eL_n, Option.toList_none, Option.toList_some, List.nil_append, List.cons_append, hr2.1, hr2.2.1]
      refine ⟨_, rfl, by decide, ?_⟩
      exact hq _ (f1.tr (f2.tr (fr_I rfl))) hr2.set2
  have loop : ∀ (k : Nat) (i : Int), k = (L - i).toNat → 0 ≤ i → i ≤ 540 → skF B len L k i = skF B len L (L - fo).toNat fo → PW (d + 2) 60 8 [some (.ref rd), some (.int (iI L)), some (.int (iI i))] [] h Q := by
    intro k
    induction k with
    | zero =>
      intro i hk hi1 hi2 hs
      refine vs_ok 3 ?_
      rw [show ((gRes 60).drop 8).take 3 = [.iload 2, .iload 1, .if_icmp .ge 23] from rfl]
      simp only [vs_if_icmp, vs_iload1, vs_iload2, vs_nil, gv_0, gv_1, gv_2, gv_3, pv_0, pv_1, va_rf_s, Nat.reduceDiv, Nat.reduceMod, Nat.reduceAdd, Nat.reduceMul, Int.reduceToNat, true_and, and_true, and_self, cP_eq, cP_ne, cP_lt, cP_ge, cP_gt, cP_le, eL_i, eL_l, eL_r, eL_n, Option.toList_none, Option.toList_some, List.nil_append, List.cons_append]
      rw [iI_le (by constructor <;> omega) (by constructor <;> omega)]
      refine ⟨fun _ => fin i hs, fun c => absurd (show L ≤ i by omega) c⟩
    | succ k ih =>
      intro i hk hi1 hi2 hs
      have hb := byV_b (len := len) (i := i) hB
      have b32 : i32 (byV B len i) := by constructor <;> omega
      have i32i : i32 i := by constructor <;> omega
      rw [skF_s] at hs
      refine vs_ok 3 ?_
      rw [show ((gRes 60).drop 8).take 3 = [.iload 2, .iload 1, .if_icmp .ge 23] from rfl]
      simp only [vs_if_icmp, vs_iload1, vs_iload2, vs_nil, gv_0, gv_1, gv_2, gv_3, pv_0, pv_1, va_rf_s, Nat.reduceDiv, Nat.reduceMod, Nat.reduceAdd, Nat.reduceMul, Int.reduceToNat, true_and, and_true, and_self, cP_eq, cP_ne, cP_lt, cP_ge, cP_gt, cP_le, eL_i, eL_l, eL_r, eL_n, Option.toList_none, Option.toList_some, List.nil_append, List.cons_append]
      rw [iI_le (by constructor <;> omega) (by constructor <;> omega)]
      refine ⟨fun c => absurd c (by omega), fun _ => ?_⟩
      have p21 : (byV B len i = 32 ∨ byV B len i = 10) → PW (d + 2) 60 21 [some (.ref rd), some (.int (iI L)), some (.int (iI i))] [] h Q := fun hc => by
        rw [if_pos hc] at hs
        refine vs_ok 2 ?_
        rw [show ((gRes 60).drop 21).take 2 = [.iinc 2 1, .goto 8] from rfl]
        simp only [vs_goto, vs_iinc2n, vs_iinc2i, vs_iinc2r, vs_iinc2l, vs_nil, gv_0, gv_1, gv_2, gv_3, pv_0, pv_1, va_rf_s, Nat.reduceDiv, Nat.reduceMod, Nat.reduceAdd, Nat.reduceMul, Int.reduceToNat, true_and, and_true, and_self, cP_eq, cP_ne, cP_lt, cP_ge, cP_gt, cP_le, eL_i, eL_l, eL_r, eL_n, Option.toList_none, Option.toList_some, List.nil_append, List.cons_append, iI_add]
        exact ih (i + 1) (by omega) (by omega) (by omega) hs
      refine vs_ok 3 ?_
      rw [show ((gRes 60).drop 11).take 3 = [.aload 0, .iload 2, .invokevirtual 59] from rfl]
      simp only [vs_iv, vs_aload0, vs_iload2, vs_nil, gv_0, gv_1, gv_2, gv_3, pv_0, pv_1, va_rf_s, Nat.reduceDiv, Nat.reduceMod, Nat.reduceAdd, Nat.reduceMul, Int.reduceToNat, true_and, and_true, and_self, cP_eq, cP_ne, cP_lt, cP_ge, cP_gt, cP_le, eL_i, eL_l, eL_r, eL_n, Option.toList_none, Option.toList_some, List.nil_append, List.cons_append]
      refine PW.iv rfl rfl rfl r1 r2 (le_b rfl) (le_b rfl) ?_
      refine t_byteAt hr i32i ⟨rfl, ⟨rfl, rfl⟩, ?_⟩
      refine vs_ok 2 ?_
      rw [show ((gRes 60).drop 14).take 2 = [.iconst 32, .if_icmp .eq 21] from rfl]
      simp only [vs_iconst, vs_if_icmp, vs_nil, gv_0, gv_1, gv_2, gv_3, pv_0, pv_1, va_rf_s, Nat.reduceDiv, Nat.reduceMod, Nat.reduceAdd, Nat.reduceMul, Int.reduceToNat, true_and, and_true, and_self, cP_eq, cP_ne, cP_lt, cP_ge, cP_gt, cP_le, eL_i, eL_l, eL_r, eL_n, Option.toList_none, Option.toList_some, List.nil_append, List.cons_append]
      rw [show Int32.ofInt 32 = iI 32 from rfl, iI_eq b32 (by constructor <;> omega)]
      refine ⟨fun c => p21 (Or.inl c), fun c => ?_⟩
      refine vs_ok 3 ?_
      rw [show ((gRes 60).drop 16).take 3 = [.aload 0, .iload 2, .invokevirtual 59] from rfl]
      simp only [vs_iv, vs_aload0, vs_iload2, vs_nil, gv_0, gv_1, gv_2, gv_3, pv_0, pv_1, va_rf_s, Nat.reduceDiv, Nat.reduceMod, Nat.reduceAdd, Nat.reduceMul, Int.reduceToNat, true_and, and_true, and_self, cP_eq, cP_ne, cP_lt, cP_ge, cP_gt, cP_le, eL_i, eL_l, eL_r, eL_n, Option.toList_none, Option.toList_some, List.nil_append, List.cons_append]
      refine PW.iv rfl rfl rfl r1 r2 (le_b rfl) (le_b rfl) ?_
      refine t_byteAt hr i32i ⟨rfl, ⟨rfl, rfl⟩, ?_⟩
      refine vs_ok 2 ?_
      rw [show ((gRes 60).drop 19).take 2 = [.iconst 10, .if_icmp .ne 23] from rfl]
      simp only [vs_iconst, vs_if_icmp, vs_nil, gv_0, gv_1, gv_2, gv_3, pv_0, pv_1, va_rf_s, Nat.reduceDiv, Nat.reduceMod, Nat.reduceAdd, Nat.reduceMul, Int.reduceToNat, true_and, and_true, and_self, cP_eq, cP_ne, cP_lt, cP_ge, cP_gt, cP_le, eL_i, eL_l, eL_r, eL_n, Option.toList_none, Option.toList_some, List.nil_append, List.cons_append]
      rw [show Int32.ofInt 10 = iI 10 from rfl, iI_eq b32 (by constructor <;> omega)]
      refine ⟨fun c2 => ?_, fun c2 => p21 (Or.inr (Classical.not_not.mp c2))⟩
      rw [if_neg (fun z => z.elim c c2)] at hs
      exact fin i hs
  exact loop _ fo rfl hfo.1 hfo.2 rfl
