/-! new cells; Row's constructor -/
/-- h' has more cells than h; of the old ones only those in S are changed; c cells and s slots are new -/
def gw (S : Nat → Prop) (c s : Nat) (h h' : Hp) : Prop := zN h' = zN h + c ∧ zC h' = zC h + c ∧ zS h' = zS h + s ∧ (∀ a, a < zN h → zK h' a = zK h a) ∧ (∀ a, a < zN h → zL h' a = zL h a) ∧ (∀ a, a < zN h → ¬ S a → zI h' a = zI h a) ∧ (∀ a, a < zN h → ¬ S a → zJ h' a = zJ h a) ∧ (∀ a, a < zN h → ¬ S a → zR h' a = zR h a)
theorem gw.of_fr {S : Nat → Prop} {h h' : Hp} (hf : fr S h h') : gw S 0 0 h h' := ⟨hf.2.2.1, hf.2.2.2.1, hf.2.2.2.2.1, fun _ _ => by rw [hf.1], fun _ _ => by rw [hf.2.1], fun a _ ha => hf.2.2.2.2.2.1 a ha, fun a _ ha => hf.2.2.2.2.2.2.1 a ha, fun a _ ha => hf.2.2.2.2.2.2.2 a ha⟩
theorem gw.tr {S : Nat → Prop} {c1 s1 c2 s2 : Nat} {a b c : Hp} (h1 : gw S c1 s1 a b) (h2 : gw (fun q => S q ∨ zN a ≤ q) c2 s2 b c) : gw S (c1 + c2) (s1 + s2) a c := by
  obtain ⟨n1, x1, y1, k1, l1, i1, j1, r1⟩ := h1
  obtain ⟨n2, x2, y2, k2, l2, i2, j2, r2⟩ := h2
  refine ⟨by omega, by omega, by omega, fun q hq => ?_, fun q hq => ?_, fun q hq hs => ?_, fun q hq hs => ?_, fun q hq hs => ?_⟩
  · rw [k2 q (by omega), k1 q hq]
  · rw [l2 q (by omega), l1 q hq]
  · rw [i2 q (by omega) (by rintro (z | z) <;> first | exact hs z | omega), i1 q hq hs]
  · rw [j2 q (by omega) (by rintro (z | z) <;> first | exact hs z | omega), j1 q hq hs]
  · rw [r2 q (by omega) (by rintro (z | z) <;> first | exact hs z | omega), r1 q hq hs]
theorem gw.wk {S T : Nat → Prop} {c s : Nat} {a b : Hp} (h1 : gw S c s a b) (hs : ∀ q, q < zN a → S q → T q) : gw T c s a b := by
  obtain ⟨n1, x1, y1, k1, l1, i1, j1, r1⟩ := h1
  exact ⟨n1, x1, y1, k1, l1, fun q hq ht => i1 q hq (fun z => ht (hs q hq z)), fun q hq ht => j1 q hq (fun z => ht (hs q hq z)), fun q hq ht => r1 q hq (fun z => ht (hs q hq z))⟩
theorem gw_new {S : Nat → Prop} {h : Hp} {k n s : Nat} : gw S 1 s h (zNew h k n s) := by
  have e : ∀ {α : Type} (f : Nat → α) (v : α) (a : Nat), a < zN h → u1 f (zN h) v a = f a := fun f v a ha => by
    unfold u1
    rw [if_neg (Nat.ne_of_lt ha)]
  exact ⟨rfl, rfl, rfl, fun a ha => e _ _ a ha, fun a ha => e _ _ a ha, fun a ha _ => e _ _ a ha, fun a ha _ => e _ _ a ha, fun a ha _ => e _ _ a ha⟩
theorem zNew_K {h : Hp} {k n s : Nat} : zK (zNew h k n s) (zN h) = k := by
  show u1 (zK h) (zN h) k (zN h) = k
  simp [u1]
theorem zNew_L {h : Hp} {k n s : Nat} : zL (zNew h k n s) (zN h) = n := by
  show u1 (zL h) (zN h) n (zN h) = n
  simp [u1]
theorem zNew_I {h : Hp} {k n s : Nat} : zI (zNew h k n s) (zN h) = fun _ => 0 := by
  show u1 (zI h) (zN h) _ (zN h) = _
  simp [u1]
theorem zNew_J {h : Hp} {k n s : Nat} : zJ (zNew h k n s) (zN h) = fun _ => 0 := by
  show u1 (zJ h) (zN h) _ (zN h) = _
  simp [u1]
theorem zNew_R {h : Hp} {k n s : Nat} : zR (zNew h k n s) (zN h) = fun _ => none := by
  show u1 (zR h) (zN h) _ (zN h) = _
  simp [u1]
theorem zNew_N {h : Hp} {k n s : Nat} : zN (zNew h k n s) = zN h + 1 := rfl
theorem t_Row_init {d : Nat} {h : Hp} {r : Nat} {wide : Int32} {rc : Nat} {Q : Nat → Option Value → Hp → Prop} (h1 : zK h r = 6) (h2 : zN h = r + 1) (h3 : r + 1 < zSC) (hI : zI h r = fun _ => 0) (hJ : zJ h r = fun _ => 0) (hrc : rc = if wide = 0 then 200 else 800)
    (hq : ∀ h', gw (fun q => q = r) 1 (2 * rc + 1) h h' → rowV h' r rc 0 0 0 (fun _ => 0) → Q 0 none h') : PR d m_Row_init [.ref r, .int wide] h Q := by
  have hr : r < zN h := by omega
  show PW d 65 0 [some (.ref r), some (.int wide)] [] h Q
  refine vs_ok 5 ?_
  rw [show ((gRes 65).drop 0).take 5 = [.aload 0, .invokedynamic 4, .aload 0, .iload 1, .ifCond .eq 7] from rfl]
  simp only [vs_ifCond, vs_aload0, vs_iload1, vs_nil, gv_0, gv_1, gv_2, gv_3, pv_0, pv_1, va_rf_s, vs_abs, vs_max, vs_min, vs_oinit, Nat.reduceDiv, Nat.reduceMod, Nat.reduceAdd, Nat.reduceMul, Int.reduceToNat, true_and, and_true, and_self, cP_eq, cP_ne, cP_lt, cP_ge, cP_gt, cP_le, eL_i, eL_l, eL_r, eL_n, Option.toList_none, Option.toList_some, List.nil_append, List.cons_append]
  refine ⟨le_b rfl, ?_⟩
  have fin : ∀ (n : Nat), n = 2 * rc + 1 → rc ≤ 800 → PW d 65 15 [some (.ref r), some (.int wide)] [.int (iI n), .ref r] (zsI h r 0 (iI rc)) Q := by
    intro n hn hb
    have e3 : (iI (n : Nat)).toNatClampNeg = n := by
      rw [iI_nat (by constructor <;> omega) (by omega)]
      omega
    refine vs_ok 1 ?_
    rw [show ((gRes 65).drop 15).take 1 = [.newarray .long] from rfl]
    simp only [vs_nil, gv_0, gv_1, gv_2, gv_3, pv_0, pv_1, va_rf_s, vs_newarray, Nat.reduceDiv, Nat.reduceMod, Nat.reduceAdd, Nat.reduceMul, Int.reduceToNat, true_and, and_true, and_self, cP_eq, cP_ne, cP_lt, cP_ge, cP_gt, cP_le, eL_i, eL_l, eL_r, eL_n, Option.toList_none, Option.toList_some, List.nil_append, List.cons_append, e3]
    have z : zN (zsI h r 0 (iI rc)) = r + 1 := h2
    rw [z]
    refine ⟨⟨by decide, (zge0 (by constructor <;> omega)).mpr (by omega), by omega, by omega, ?_⟩, ?_⟩
    · show (decide (r < r + 1 ∨ r = zSC) && (true && true) && (decide (r < r + 1 ∨ r = zSC) && true)) = true
      rw [decide_eq_true (Or.inl (Nat.lt_succ_self r))]
      rfl
    refine vs_ok 2 ?_
    rw [show ((gRes 65).drop 16).take 2 = [.putfield 6012, .return_] from rfl]
    simp only [vs_putfield, vs_return_, vs_nil, gv_0, gv_1, gv_2, gv_3, pv_0, pv_1, va_rf_s, Nat.reduceDiv, Nat.reduceMod, Nat.reduceAdd, Nat.reduceMul, Int.reduceToNat, true_and, and_true, and_self, cP_eq, cP_ne, cP_lt, cP_ge, cP_gt, cP_le, eL_i, eL_l, eL_r, eL_n, Option.toList_none, Option.toList_some, List.nil_append, List.cons_append]
    have w1 : gw (fun q => q = r) 0 0 h (zsI h r 0 (iI rc)) := gw.of_fr (fr_I rfl)
    have w2 : gw (fun q => q = r ∨ zN h ≤ q) 1 n (zsI h r 0 (iI rc)) (zNew (zsI h r 0 (iI rc)) (atk ArrayType.long) n n) := gw_new
    have q1 := zNew_K (h := zsI h r 0 (iI rc)) (k := atk ArrayType.long) (n := n) (s := n)
    have q2 := zNew_L (h := zsI h r 0 (iI rc)) (k := atk ArrayType.long) (n := n) (s := n)
    have q3 := zNew_J (h := zsI h r 0 (iI rc)) (k := atk ArrayType.long) (n := n) (s := n)
    have q4 := zNew_N (h := zsI h r 0 (iI rc)) (k := atk ArrayType.long) (n := n) (s := n)
    rw [z] at q1 q2 q3 q4
    have k6 : zK (zNew (zsI h r 0 (iI rc)) (atk ArrayType.long) n n) r = 6 := by
      rw [w2.2.2.2.1 r (by omega)]
      exact h1
    have i6 : zI (zNew (zsI h r 0 (iI rc)) (atk ArrayType.long) n n) r = zI (zsI h r 0 (iI rc)) r := (gw_new (S := fun _ => False)).2.2.2.2.2.1 r (by omega) (fun c => c)
    have j6 : zJ (zNew (zsI h r 0 (iI rc)) (atk ArrayType.long) n n) r = zJ h r := (gw_new (S := fun _ => False)).2.2.2.2.2.2.1 r (by omega) (fun c => c)
    have b1 : r + 1 < zN (zNew (zsI h r 0 (iI rc)) (atk ArrayType.long) n n) := by
      rw [q4]
      exact Nat.lt_succ_self _
    refine ⟨⟨k6, Nat.lt_of_succ_lt b1⟩, _, if_pos b1, rfl, ?_⟩
    generalize zNew (zsI h r 0 (iI rc)) (atk ArrayType.long) n n = g at *
    refine hq _ ?_ ?_
    · have w := (w1.tr w2).tr (gw.of_fr (fr_R (S := fun q => q = r ∨ zN h ≤ q) (a := r) (i := 1) (v := some (r + 1)) (Or.inl rfl)))
      rw [hn, Nat.zero_add, Nat.zero_add] at w
      exact w
    · refine ⟨⟨k6, by show r < zN g; omega, q1, by show r + 1 < zN g; omega, q2.trans hn, ?_, ?_, hb⟩, ?_, ?_, ?_, ⟨by omega, by omega, by omega⟩, fun m => ?_, fun _ _ => rfl⟩
      · show zI g r 0 = _
        rw [i6, zI_sI, if_pos ⟨rfl, rfl⟩]
      · rw [zR_sR, if_pos ⟨rfl, rfl⟩]
      · show zI g r 2 = _
        rw [i6, zI_sI, if_neg (by simp), hI]
        rfl
      · show zI g r 3 = _
        rw [i6, zI_sI, if_neg (by simp), hI]
        rfl
      · show zJ g r 4 = _
        rw [j6, hJ]
        rfl
      · show wAt g (r + 1) rc m = _
        unfold wAt
        rw [q3]
        split <;> rfl
  by_cases c : wide = 0
  · refine ⟨fun _ => ?_, fun z => absurd c z⟩
    rw [if_pos c] at hrc
    subst hrc
    refine vs_ok 4 ?_
    rw [show ((gRes 65).drop 7).take 4 = [.iconst 200, .putfield 6000, .aload 0, .iload 1] from rfl]
    simp only [vs_iconst, vs_putfield, vs_aload0, vs_iload1, vs_nil, gv_0, gv_1, gv_2, gv_3, pv_0, pv_1, va_rf_s, Nat.reduceDiv, Nat.reduceMod, Nat.reduceAdd, Nat.reduceMul, Int.reduceToNat, true_and, and_true, and_self, cP_eq, cP_ne, cP_lt, cP_ge, cP_gt, cP_le, eL_i, eL_l, eL_r, eL_n, Option.toList_none, Option.toList_some, List.nil_append, List.cons_append, h1, hr, pv, true_and, Option.some.injEq]
    refine ⟨_, rfl, ?_⟩
    refine vs_ok 1 ?_
    rw [show ((gRes 65).drop 11).take 1 = [.ifCond .eq 14] from rfl]
    simp only [vs_ifCond, vs_nil, gv_0, gv_1, gv_2, gv_3, pv_0, pv_1, va_rf_s, Nat.reduceDiv, Nat.reduceMod, Nat.reduceAdd, Nat.reduceMul, Int.reduceToNat, true_and, and_true, and_self, cP_eq, cP_ne, cP_lt, cP_ge, cP_gt, cP_le, eL_i, eL_l, eL_r, eL_n, Option.toList_none, Option.toList_some, List.nil_append, List.cons_append]
    refine ⟨fun _ => ?_, fun z => absurd c z⟩
    refine vs_ok 1 ?_
    rw [show ((gRes 65).drop 14).take 1 = [.iconst 401] from rfl]
    simp only [vs_iconst, vs_nil, gv_0, gv_1, gv_2, gv_3, pv_0, pv_1, va_rf_s, Nat.reduceDiv, Nat.reduceMod, Nat.reduceAdd, Nat.reduceMul, Int.reduceToNat, true_and, and_true, and_self, cP_eq, cP_ne, cP_lt, cP_ge, cP_gt, cP_le, eL_i, eL_l, eL_r, eL_n, Option.toList_none, Option.toList_some, List.nil_append, List.cons_append]
    exact fin 401 (by decide) (by decide)
  · refine ⟨fun z => absurd z c, fun _ => ?_⟩
    rw [if_neg c] at hrc
    subst hrc
    refine vs_ok 2 ?_
    rw [show ((gRes 65).drop 5).take 2 = [.iconst 800, .goto 8] from rfl]
    simp only [vs_iconst, vs_goto, vs_nil, gv_0, gv_1, gv_2, gv_3, pv_0, pv_1, va_rf_s, Nat.reduceDiv, Nat.reduceMod, Nat.reduceAdd, Nat.reduceMul, Int.reduceToNat, true_and, and_true, and_self, cP_eq, cP_ne, cP_lt, cP_ge, cP_gt, cP_le, eL_i, eL_l, eL_r, eL_n, Option.toList_none, Option.toList_some, List.nil_append, List.cons_append]
    refine vs_ok 3 ?_
    rw [show ((gRes 65).drop 8).take 3 = [.putfield 6000, .aload 0, .iload 1] from rfl]
    simp only [vs_putfield, vs_aload0, vs_iload1, vs_nil, gv_0, gv_1, gv_2, gv_3, pv_0, pv_1, va_rf_s, Nat.reduceDiv, Nat.reduceMod, Nat.reduceAdd, Nat.reduceMul, Int.reduceToNat, true_and, and_true, and_self, cP_eq, cP_ne, cP_lt, cP_ge, cP_gt, cP_le, eL_i, eL_l, eL_r, eL_n, Option.toList_none, Option.toList_some, List.nil_append, List.cons_append, h1, hr, pv, true_and, Option.some.injEq]
    refine ⟨_, rfl, ?_⟩
    refine vs_ok 1 ?_
    rw [show ((gRes 65).drop 11).take 1 = [.ifCond .eq 14] from rfl]
    simp only [vs_ifCond, vs_nil, gv_0, gv_1, gv_2, gv_3, pv_0, pv_1, va_rf_s, Nat.reduceDiv, Nat.reduceMod, Nat.reduceAdd, Nat.reduceMul, Int.reduceToNat, true_and, and_true, and_self, cP_eq, cP_ne, cP_lt, cP_ge, cP_gt, cP_le, eL_i, eL_l, eL_r, eL_n, Option.toList_none, Option.toList_some, List.nil_append, List.cons_append]
    refine ⟨fun z => absurd z c, fun _ => ?_⟩
    refine vs_ok 2 ?_
    rw [show ((gRes 65).drop 12).take 2 = [.iconst 1601, .goto 15] from rfl]
    simp only [vs_iconst, vs_goto, vs_nil, gv_0, gv_1, gv_2, gv_3, pv_0, pv_1, va_rf_s, Nat.reduceDiv, Nat.reduceMod, Nat.reduceAdd, Nat.reduceMul, Int.reduceToNat, true_and, and_true, and_self, cP_eq, cP_ne, cP_lt, cP_ge, cP_gt, cP_le, eL_i, eL_l, eL_r, eL_n, Option.toList_none, Option.toList_some, List.nil_append, List.cons_append]
    exact fin 1601 (by decide) (by decide)
