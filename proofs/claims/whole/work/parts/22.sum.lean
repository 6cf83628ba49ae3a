/-! sums over numbers; Row: tooMany, takeSum -/
def sm (f : Int → Int) (lo : Int) : Nat → Int
  | 0 => 0
  | k + 1 => sm f lo k + f (lo + k)
/-- the sum of f over all numbers from -1000 on that are less than n -/
def pS (f : Int → Int) (n : Int) : Int := sm f (-1000) (n + 1000).toNat
theorem pS_s {f : Int → Int} {n : Int} (h : -1000 ≤ n) : pS f (n + 1) = pS f n + f n := by
  unfold pS
  rw [show (n + 1 + 1000).toNat = (n + 1000).toNat + 1 by omega]
  show sm f (-1000) (n + 1000).toNat + f (-1000 + ((n + 1000).toNat : Int)) = _
  rw [show (-1000 + ((n + 1000).toNat : Int)) = n by omega]
theorem sm_congr {f g : Int → Int} {lo : Int} : ∀ k : Nat, (∀ j : Nat, j < k → f (lo + j) = g (lo + j)) → sm f lo k = sm g lo k
  | 0, _ => rfl
  | k + 1, h => by
    show sm f lo k + _ = sm g lo k + _
    rw [sm_congr k (fun j hj => h j (by omega)), h k (by omega)]
theorem pS_congr {f g : Int → Int} {n : Int} (h : ∀ m, -1000 ≤ m → m < n → f m = g m) : pS f n = pS g n := sm_congr _ fun j hj => h _ (by omega) (by omega)
theorem sm_zero {f : Int → Int} {lo : Int} : ∀ k : Nat, (∀ j : Nat, j < k → f (lo + j) = 0) → sm f lo k = 0
  | 0, _ => rfl
  | k + 1, h => by
    show sm f lo k + _ = 0
    rw [sm_zero k (fun j hj => h j (by omega)), h k (by omega)]
    rfl
theorem pS_zero {f : Int → Int} {n : Int} (h : ∀ m, -1000 ≤ m → m < n → f m = 0) : pS f n = 0 := sm_zero _ fun j hj => h _ (by omega) (by omega)
theorem pS_end {f : Int → Int} {a : Int} (ha : -1000 ≤ a) : ∀ k : Nat, (∀ m, a ≤ m → m < a + k → f m = 0) → pS f (a + k) = pS f a
  | 0, _ => by simp
  | k + 1, h => by
    rw [show a + ((k + 1 : Nat) : Int) = a + k + 1 by omega, pS_s (by omega), pS_end ha k (fun m h1 h2 => h m h1 (by omega)), h (a + k) (by omega) (by omega), Int.add_zero]
theorem pS_top {f : Int → Int} {a b : Int} (ha : -1000 ≤ a) (hab : a ≤ b) (h : ∀ m, a ≤ m → m < b → f m = 0) : pS f b = pS f a := by
  have := pS_end (f := f) ha (b - a).toNat (fun m h1 h2 => h m h1 (by omega))
  rwa [show a + ((b - a).toNat : Int) = b by omega] at this
/-- TOO MANY ways, as 0 or 1 -/
theorem t_tooMany {d : Nat} {h : Hp} {a ra b rb : Nat} {la ha ta lb hb tb : Int} {Wa Wb : Int → Int} {Q : Nat → Option Value → Hp → Prop} (hv : rowV h a ra la ha ta Wa) (ho : rowV h b rb lb hb tb Wb) (h1 : 0 ≤ ta ∧ ta ≤ 1000000000) (h2 : 0 ≤ tb ∧ tb ≤ 1000000000)
    (hq : Q 0 (some (.int (if 1000000000 < ta * tb then 1 else 0))) h) : PR d m_Row_tooMany [.ref a, .ref b] h Q := by
  have hm : 0 ≤ ta * tb ∧ ta * tb ≤ 1000000000 * 1000000000 := ⟨Int.mul_nonneg h1.1 h2.1, Int.mul_le_mul h1.2 h2.2 h2.1 (by omega)⟩
  show PW d 74 0 [some (.ref a), some (.ref b)] [] h Q
  refine vs_ok 8 ?_
  rw [show ((gRes 74).drop 0).take 8 = [.aload 0, .getfield 6041, .aload 1, .getfield 6041, .lmul, .jsr_w 1000000000, .lcmp, .ifCond .le 10] from rfl]
  simp only [vs_lmul, vs_lcmp, vs_jsr_w, vs_ifCond, vs_getfield, vs_aload0, vs_aload1, vs_nil, gv_0, gv_1, gv_2, gv_3, pv_0, pv_1, va_rf_s, Nat.reduceDiv, Nat.reduceMod, Nat.reduceAdd, Nat.reduceMul, Int.reduceToNat, true_and, and_true, and_self, cP_eq, cP_ne, cP_lt, cP_ge, cP_gt, cP_le, eL_i, eL_l, eL_r, eL_n, Option.toList_none, Option.toList_some, List.nil_append, List.cons_append, hv.1.1, hv.1.2.1, ho.1.1, ho.1.2.1, hv.2.2.2.1, ho.2.2.2.1, lI_mul]
  have hc : lg_cmp (lI (ta * tb)) (Int64.ofInt 1000000000) ≤ 0 ↔ ta * tb ≤ 1000000000 := by
    unfold lg_cmp
    have e1 : lI (ta * tb) > Int64.ofInt 1000000000 ↔ 1000000000 < ta * tb := lI_lt (by constructor <;> omega) (by constructor <;> omega)
    have e2 : lI (ta * tb) = Int64.ofInt 1000000000 ↔ ta * tb = 1000000000 := lI_eq (by constructor <;> omega) (by constructor <;> omega)
    by_cases c1 : 1000000000 < ta * tb
    · rw [if_pos (e1.mpr c1)]
      exact ⟨fun z => absurd z (by decide), fun z => by omega⟩
    · rw [if_neg (fun z => c1 (e1.mp z))]
      split
      · exact ⟨fun _ => by omega, fun _ => by decide⟩
      · exact ⟨fun _ => by omega, fun _ => by decide⟩
  rw [hc]
  refine ⟨fun c => ?_, fun c => ?_⟩
  · refine vs_ok 2 ?_
    rw [show ((gRes 74).drop 10).take 2 = [.iconst 0, .ireturn] from rfl]
    simp only [vs_iconst, vs_ireturn, vs_nil, gv_0, gv_1, gv_2, gv_3, pv_0, pv_1, va_rf_s, Nat.reduceDiv, Nat.reduceMod, Nat.reduceAdd, Nat.reduceMul, Int.reduceToNat, true_and, and_true, and_self, cP_eq, cP_ne, cP_lt, cP_ge, cP_gt, cP_le, eL_i, eL_l, eL_r, eL_n, Option.toList_none, Option.toList_some, List.nil_append, List.cons_append]
    rw [if_neg (by omega)] at hq
    exact ⟨Or.inr ⟨by decide, Or.inl rfl⟩, hq⟩
  · refine vs_ok 2 ?_
    rw [show ((gRes 74).drop 8).take 2 = [.iconst 1, .goto 11] from rfl]
    simp only [vs_iconst, vs_goto, vs_nil, gv_0, gv_1, gv_2, gv_3, pv_0, pv_1, va_rf_s, Nat.reduceDiv, Nat.reduceMod, Nat.reduceAdd, Nat.reduceMul, Int.reduceToNat, true_and, and_true, and_self, cP_eq, cP_ne, cP_lt, cP_ge, cP_gt, cP_le, eL_i, eL_l, eL_r, eL_n, Option.toList_none, Option.toList_some, List.nil_append, List.cons_append]
    refine vs_ok 1 ?_
    rw [show ((gRes 74).drop 11).take 1 = [.ireturn] from rfl]
    simp only [vs_ireturn, vs_nil, gv_0, gv_1, gv_2, gv_3, pv_0, pv_1, va_rf_s, Nat.reduceDiv, Nat.reduceMod, Nat.reduceAdd, Nat.reduceMul, Int.reduceToNat, true_and, and_true, and_self, cP_eq, cP_ne, cP_lt, cP_ge, cP_gt, cP_le, eL_i, eL_l, eL_r, eL_n, Option.toList_none, Option.toList_some, List.nil_append, List.cons_append]
    rw [if_pos (by omega)] at hq
    exact ⟨Or.inr ⟨by decide, Or.inr rfl⟩, hq⟩
/-- WAYS of two thrown apart and added (taken away): of m -/
def cvW (mi : Int32) (Wa Wb : Int → Int) (m : Int) : Int := pS (fun i => Wa i * Wb (sg mi i m)) 1000
theorem lg0 {x : Int} (h : i64 x) : lg_cmp (lI x) (Int64.ofInt 0) = 0 ↔ x = 0 := by
  unfold lg_cmp
  have e1 : lI x > Int64.ofInt 0 ↔ 0 < x := lI_lt (by constructor <;> omega) h
  have e2 : lI x = Int64.ofInt 0 ↔ x = 0 := lI_eq h (by constructor <;> omega)
  by_cases c1 : 0 < x
  · rw [if_pos (e1.mpr c1)]
    exact ⟨fun z => absurd z (by decide), fun z => by omega⟩
  · rw [if_neg (fun z => c1 (e1.mp z))]
    by_cases c2 : x = 0
    · rw [if_pos (e2.mpr c2)]
      exact ⟨fun _ => c2, fun _ => rfl⟩
    · rw [if_neg (fun z => c2 (e2.mp z))]
      exact ⟨fun z => absurd z (by decide), fun z => absurd z c2⟩
theorem t_takeSum {d : Nat} {h : Hp} {r rc a ra b rb : Nat} {l0 h0 t0 la ha ta lb hb tb : Int} {W0 Wa Wb : Int → Int} {mi : Int32} {Q : Nat → Option Value → Hp → Prop} (hr : rowV h r rc l0 h0 t0 W0) (hv : rowV h a ra la ha ta Wa) (ho : rowV h b rb lb hb tb Wb) (hapa : apt r a) (hapb : apt r b) (hmi : mi = 0 ∨ mi = 1) (h1 : 0 ≤ ta ∧ ta ≤ 1000000000) (h2 : 0 ≤ tb ∧ tb ≤ 1000000000) (hW : ∀ m, i64 (Wa m))
    (hbad : ¬ (-rc ≤ (if mi = 0 then la + lb else la - hb) ∧ (if mi = 0 then ha + hb else ha - lb) ≤ rc ∧ ta * tb ≤ 1000000000) → Q 0 (some (.int 0)) h)
    (hq : (-rc ≤ (if mi = 0 then la + lb else la - hb) ∧ (if mi = 0 then ha + hb else ha - lb) ≤ rc ∧ ta * tb ≤ 1000000000) → ∀ h', fr (rS r) h h' → rowV h' r rc (if mi = 0 then la + lb else la - hb) (if mi = 0 then ha + hb else ha - lb) (ta * tb) (cvW mi Wa Wb) → Q 0 (some (.int 1)) h') : PR (d + 2) m_Row_takeSum [.ref r, .ref a, .ref b, .int mi] h Q := by
  have hrc := hr.1.2.2.2.2.2.2.2
  have hra := hv.1.2.2.2.2.2.2.2
  have hrb := ho.1.2.2.2.2.2.2.2
  have va5 := hv.2.2.2.2.1
  have vb5 := ho.2.2.2.2.1
  generalize hlow : (if mi = 0 then la + lb else la - hb) = low at hbad hq
  generalize hhigh : (if mi = 0 then ha + hb else ha - lb) = high at hbad hq
  have blow : -1600 ≤ low ∧ low ≤ 1600 := by rw [← hlow]; split <;> omega
  have bhigh : -1600 ≤ high ∧ high ≤ 1600 := by rw [← hhigh]; split <;> omega
  have blh : low ≤ high := by rw [← hhigh, ← hlow]; split <;> omega
  show PW (d + 2) 72 0 [some (.ref r), some (.ref a), some (.ref b), some (.int mi), none, none, none, none, none] [] h Q
  have p13 : PW (d + 2) 72 13 [some (.ref r), some (.ref a), some (.ref b), some (.int mi), none, none, none, none, none] [.int (iI low)] h Q := by
    have p27 : PW (d + 2) 72 27 [some (.ref r), some (.ref a), some (.ref b), some (.int mi), some (.int (iI low)), none, none, none, none] [.int (iI high)] h Q := by
      refine vs_ok 6 ?_
      rw [show ((gRes 72).drop 27).take 6 = [.istore 5, .iload 4, .aload 0, .getfield 6000, .ineg, .if_icmp .lt 41] from rfl]
      simp only [vs_if_icmp, vs_getfield, vs_aload0, vs_iload4, vs_istore5n, vs_istore5i, vs_istore5r, vs_istore5l, vs_nil, gv_0, gv_1, gv_2, gv_3, pv_0, pv_1, va_rf_s, vs_ineg, Nat.reduceDiv, Nat.reduceMod, Nat.reduceAdd, Nat.reduceMul, Int.reduceToNat, true_and, and_true, and_self, cP_eq, cP_ne, cP_lt, cP_ge, cP_gt, cP_le, eL_i, eL_l, eL_r, eL_n, Option.toList_none, Option.toList_some, List.nil_append, List.cons_append, hr.1.1, hr.1.2.1, hr.1.2.2.2.2.2.1, iI_neg]
      have p41 : ¬ (-rc ≤ low ∧ high ≤ rc ∧ ta * tb ≤ 1000000000) → PW (d + 2) 72 41 [some (.ref r), some (.ref a), some (.ref b), some (.int mi), some (.int (iI low)), some (.int (iI high)), none, none, none] [] h Q := fun hc => by
        refine vs_ok 2 ?_
        rw [show ((gRes 72).drop 41).take 2 = [.iconst 0, .ireturn] from rfl]
        simp only [vs_iconst, vs_ireturn, vs_nil, gv_0, gv_1, gv_2, gv_3, pv_0, pv_1, va_rf_s, Nat.reduceDiv, Nat.reduceMod, Nat.reduceAdd, Nat.reduceMul, Int.reduceToNat, true_and, and_true, and_self, cP_eq, cP_ne, cP_lt, cP_ge, cP_gt, cP_le, eL_i, eL_l, eL_r, eL_n, Option.toList_none, Option.toList_some, List.nil_append, List.cons_append]
        exact ⟨Or.inr ⟨by decide, Or.inl rfl⟩, hbad hc⟩
      rw [iI_lt (by constructor <;> omega) (by constructor <;> omega)]
      refine ⟨fun c => p41 (by omega), fun c1 => ?_⟩
      refine vs_ok 4 ?_
      rw [show ((gRes 72).drop 33).take 4 = [.iload 5, .aload 0, .getfield 6000, .if_icmp .gt 41] from rfl]
      simp only [vs_if_icmp, vs_getfield, vs_aload0, vs_iload5, vs_nil, gv_0, gv_1, gv_2, gv_3, pv_0, pv_1, va_rf_s, Nat.reduceDiv, Nat.reduceMod, Nat.reduceAdd, Nat.reduceMul, Int.reduceToNat, true_and, and_true, and_self, cP_eq, cP_ne, cP_lt, cP_ge, cP_gt, cP_le, eL_i, eL_l, eL_r, eL_n, Option.toList_none, Option.toList_some, List.nil_append, List.cons_append, hr.1.1, hr.1.2.1, hr.1.2.2.2.2.2.1]
      rw [iI_lt (by constructor <;> omega) (by constructor <;> omega)]
      refine ⟨fun c => p41 (by omega), fun c2 => ?_⟩
      refine vs_ok 3 ?_
      rw [show ((gRes 72).drop 37).take 3 = [.aload 1, .aload 2, .invokestatic 74] from rfl]
      simp only [vs_ist, vs_aload1, vs_aload2, vs_nil, gv_0, gv_1, gv_2, gv_3, pv_0, pv_1, va_rf_s, Nat.reduceDiv, Nat.reduceMod, Nat.reduceAdd, Nat.reduceMul, Int.reduceToNat, true_and, and_true, and_self, cP_eq, cP_ne, cP_lt, cP_ge, cP_gt, cP_le, eL_i, eL_l, eL_r, eL_n, Option.toList_none, Option.toList_some, List.nil_append, List.cons_append]
      refine PW.ss rfl (le_b rfl) rfl rfl (le_b rfl) (le_b rfl) ?_
      refine t_tooMany hv ho h1 h2 ⟨rfl, ⟨rfl, rfl⟩, ?_⟩
      refine vs_ok 1 ?_
      rw [show ((gRes 72).drop 40).take 1 = [.ifCond .eq 43] from rfl]
      simp only [vs_ifCond, vs_nil, gv_0, gv_1, gv_2, gv_3, pv_0, pv_1, va_rf_s, Nat.reduceDiv, Nat.reduceMod, Nat.reduceAdd, Nat.reduceMul, Int.reduceToNat, true_and, and_true, and_self, cP_eq, cP_ne, cP_lt, cP_ge, cP_gt, cP_le, eL_i, eL_l, eL_r, eL_n, Option.toList_none, Option.toList_some, List.nil_append, List.cons_append]
      refine ⟨fun c => ?_, fun c => p41 (fun z => c (by rw [if_neg (by omega)]))⟩
      have hmm : ta * tb ≤ 1000000000 := by
        by_cases z : 1000000000 < ta * tb
        · rw [if_pos z] at c
          exact absurd c (by decide)
        · omega
      have hok : -rc ≤ low ∧ high ≤ rc ∧ ta * tb ≤ 1000000000 := ⟨by omega, by omega, hmm⟩
      refine vs_ok 9 ?_
      rw [show ((gRes 72).drop 43).take 9 = [.aload 0, .iload 4, .iload 5, .aload 1, .getfield 6041, .aload 2, .getfield 6041, .lmul, .invokevirtual 68] from rfl]
      simp only [vs_lmul, vs_getfield, vs_iv, vs_aload0, vs_aload1, vs_aload2, vs_iload4, vs_iload5, vs_nil, gv_0, gv_1, gv_2, gv_3, pv_0, pv_1, va_rf_s, Nat.reduceDiv, Nat.reduceMod, Nat.reduceAdd, Nat.reduceMul, Int.reduceToNat, true_and, and_true, and_self, cP_eq, cP_ne, cP_lt, cP_ge, cP_gt, cP_le, eL_i, eL_l, eL_r, eL_n, Option.toList_none, Option.toList_some, List.nil_append, List.cons_append, hv.1.1, hv.1.2.1, ho.1.1, ho.1.2.1, hv.2.2.2.1, ho.2.2.2.1, lI_mul]
      refine PW.iv rfl rfl rfl hr.1.1 hr.1.2.1 (le_b rfl) (le_b rfl) ?_
      refine t_blankV hr fun g f1 g1 g2 g3 g4 g5 => ⟨rfl, ⟨f1.2.2.1, rfl⟩, ?_⟩
      have va := hv.keep f1 (by rintro (z | z) <;> omega) (by rintro (z | z) <;> omega)
      have vb := ho.keep f1 (by rintro (z | z) <;> omega) (by rintro (z | z) <;> omega)
      refine vs_ok 3 ?_
      rw [show ((gRes 72).drop 52).take 3 = [.aload 1, .getfield 6020, .istore 6] from rfl]
      simp only [vs_getfield, vs_aload1, vs_istore6n, vs_istore6i, vs_istore6r, vs_istore6l, vs_nil, gv_0, gv_1, gv_2, gv_3, pv_0, pv_1, va_rf_s, Nat.reduceDiv, Nat.reduceMod, Nat.reduceAdd, Nat.reduceMul, Int.reduceToNat, true_and, and_true, and_self, cP_eq, cP_ne, cP_lt, cP_ge, cP_gt, cP_le, eL_i, eL_l, eL_r, eL_n, Option.toList_none, Option.toList_some, List.nil_append, List.cons_append, va.1.1, va.1.2.1, va.2.1]
      have loop : ∀ (k : Nat) (i : Int) (o7 o8 : Option Value) (g9 : Hp), k = (ha + 1 - i).toNat → la ≤ i → i ≤ ha + 1 → fr (fun q => q = r + 1) g g9 → (∀ m : Int, -rc ≤ m ∧ m ≤ rc → wAt g9 (r + 1) rc m = lI (pS (fun i => Wa i * Wb (sg mi i m)) i)) → PW (d + 2) 72 55 [some (.ref r), some (.ref a), some (.ref b), some (.int mi), some (.int (iI low)), some (.int (iI high)), some (.int (iI i)), o7, o8] [] g9 Q := by
        intro k
        induction k with
        | zero =>
          intro i o7 o8 g9 hk hi1 hi2 hf hw
          have va := va.keep hf (by omega) (by omega)
          have eI := hf.2.2.2.2.2.1 r (by omega)
          have eJ := hf.2.2.2.2.2.2.1 r (by omega)
          have eR := hf.2.2.2.2.2.2.2 r (by omega)
          refine vs_ok 4 ?_
          rw [show ((gRes 72).drop 55).take 4 = [.iload 6, .aload 1, .getfield 6030, .if_icmp .gt 75] from rfl]
          simp only [vs_if_icmp, vs_getfield, vs_aload1, vs_iload6, vs_nil, gv_0, gv_1, gv_2, gv_3, pv_0, pv_1, va_rf_s, Nat.reduceDiv, Nat.reduceMod, Nat.reduceAdd, Nat.reduceMul, Int.reduceToNat, true_and, and_true, and_self, cP_eq, cP_ne, cP_lt, cP_ge, cP_gt, cP_le, eL_i, eL_l, eL_r, eL_n, Option.toList_none, Option.toList_some, List.nil_append, List.cons_append, va.1.1, va.1.2.1, va.2.2.1]
          rw [iI_lt (by constructor <;> omega) (by constructor <;> omega)]
          refine ⟨fun _ => ?_, fun c => absurd (show ha < i by omega) c⟩
          refine vs_ok 2 ?_
          rw [show ((gRes 72).drop 75).take 2 = [.iconst 1, .ireturn] from rfl]
          simp only [vs_iconst, vs_ireturn, vs_nil, gv_0, gv_1, gv_2, gv_3, pv_0, pv_1, va_rf_s, Nat.reduceDiv, Nat.reduceMod, Nat.reduceAdd, Nat.reduceMul, Int.reduceToNat, true_and, and_true, and_self, cP_eq, cP_ne, cP_lt, cP_ge, cP_gt, cP_le, eL_i, eL_l, eL_r, eL_n, Option.toList_none, Option.toList_some, List.nil_append, List.cons_append]
          refine ⟨Or.inr ⟨by decide, Or.inr rfl⟩, hq hok g9 (f1.tr (hf.wk fun _ z => Or.inr z)) ⟨g1.fr hf (by rw [eI]) (by rw [eR]), by rw [eI]; exact g2, by rw [eI]; exact g3, by rw [eJ]; exact g4, ⟨hok.1, hok.2.1, blh⟩, fun m => ?_, fun m hm => ?_⟩⟩
          · by_cases hm : -rc ≤ m ∧ m ≤ rc
            · rw [hw m hm]
              refine congrArg lI ?_
              exact (pS_top (by omega) (by omega) (fun q q1 q2 => by rw [hv.2.2.2.2.2.2 q (by omega), Int.zero_mul])).symm
            · have e1 : wAt g9 (r + 1) rc m = 0 := if_neg hm
              have e2 : cvW mi Wa Wb m = 0 := pS_zero fun q q1 q2 => by
                by_cases hqa : la ≤ q ∧ q ≤ ha
                · rw [ho.2.2.2.2.2.2 (sg mi q m) (by
                    intro z
                    apply hm
                    rw [← hlow, ← hhigh] at hok
                    unfold sg at z
                    by_cases c0 : mi = 0
                    · simp only [c0, if_true] at z hok
                      omega
                    · simp only [c0, if_false] at z hok
                      omega), Int.mul_zero]
                · rw [hv.2.2.2.2.2.2 q hqa, Int.zero_mul]
              rw [e1, e2]
              rfl
          · refine pS_zero fun q q1 q2 => ?_
            by_cases hqa : la ≤ q ∧ q ≤ ha
            · rw [ho.2.2.2.2.2.2 (sg mi q m) (by
                intro z
                apply hm
                rw [← hlow, ← hhigh]
                unfold sg at z
                by_cases c0 : mi = 0
                · simp only [c0, if_true] at z ⊢
                  omega
                · simp only [c0, if_false] at z ⊢
                  omega), Int.mul_zero]
            · rw [hv.2.2.2.2.2.2 q hqa, Int.zero_mul]
        | succ k ih =>
          intro i o7 o8 g9 hk hi1 hi2 hf hw
          have va9 := va.keep hf (by omega) (by omega)
          have vb9 := vb.keep hf (by omega) (by omega)
          have eI := hf.2.2.2.2.2.1 r (by omega)
          have eR := hf.2.2.2.2.2.2.2 r (by omega)
          have g19 := g1.fr hf (by rw [eI]) (by rw [eR])
          refine vs_ok 4 ?_
          rw [show ((gRes 72).drop 55).take 4 = [.iload 6, .aload 1, .getfield 6030, .if_icmp .gt 75] from rfl]
          simp only [vs_if_icmp, vs_getfield, vs_aload1, vs_iload6, vs_nil, gv_0, gv_1, gv_2, gv_3, pv_0, pv_1, va_rf_s, Nat.reduceDiv, Nat.reduceMod, Nat.reduceAdd, Nat.reduceMul, Int.reduceToNat, true_and, and_true, and_self, cP_eq, cP_ne, cP_lt, cP_ge, cP_gt, cP_le, eL_i, eL_l, eL_r, eL_n, Option.toList_none, Option.toList_some, List.nil_append, List.cons_append, va9.1.1, va9.1.2.1, va9.2.2.1]
          rw [iI_lt (by constructor <;> omega) (by constructor <;> omega)]
          refine ⟨fun c => absurd c (by omega), fun _ => ?_⟩
          refine vs_ok 3 ?_
          rw [show ((gRes 72).drop 59).take 3 = [.aload 1, .iload 6, .invokevirtual 66] from rfl]
          simp only [vs_iv, vs_aload1, vs_iload6, vs_nil, gv_0, gv_1, gv_2, gv_3, pv_0, pv_1, va_rf_s, Nat.reduceDiv, Nat.reduceMod, Nat.reduceAdd, Nat.reduceMul, Int.reduceToNat, true_and, and_true, and_self, cP_eq, cP_ne, cP_lt, cP_ge, cP_gt, cP_le, eL_i, eL_l, eL_r, eL_n, Option.toList_none, Option.toList_some, List.nil_append, List.cons_append]
          refine PW.iv rfl rfl rfl va9.1.1 va9.1.2.1 (le_b rfl) (le_b rfl) ?_
          refine t_atV va9 ⟨by omega, by omega⟩ ⟨rfl, ⟨rfl, rfl⟩, ?_⟩
          refine vs_ok 5 ?_
          rw [show ((gRes 72).drop 62).take 5 = [.lstore 7, .lload 7, .jsr_w 0, .lcmp, .ifCond .eq 73] from rfl]
          simp only [vs_lcmp, vs_jsr_w, vs_ifCond, vs_lload7, vs_lstore7n, vs_lstore7i, vs_lstore7r, vs_lstore7l, vs_nil, gv_0, gv_1, gv_2, gv_3, pv_0, pv_1, va_rf_s, Nat.reduceDiv, Nat.reduceMod, Nat.reduceAdd, Nat.reduceMul, Int.reduceToNat, true_and, and_true, and_self, cP_eq, cP_ne, cP_lt, cP_ge, cP_gt, cP_le, eL_i, eL_l, eL_r, eL_n, Option.toList_none, Option.toList_some, List.nil_append, List.cons_append]
          rw [show (0 : Int32) = 0 from rfl, lg0 (hW i)]
          have fin : ∀ g8, fr (fun q => q = r + 1) g g8 → (∀ m : Int, -rc ≤ m ∧ m ≤ rc → wAt g8 (r + 1) rc m = lI (pS (fun i => Wa i * Wb (sg mi i m)) (i + 1))) → PW (d + 2) 72 73 [some (.ref r), some (.ref a), some (.ref b), some (.int mi), some (.int (iI low)), some (.int (iI high)), some (.int (iI i)), some (.long (lI (Wa i))), none] [] g8 Q := fun g8 f8 w8 => by
            refine vs_ok 2 ?_
            rw [show ((gRes 72).drop 73).take 2 = [.iinc 6 1, .goto 55] from rfl]
            simp only [vs_goto, vs_iinc6n, vs_iinc6i, vs_iinc6r, vs_iinc6l, vs_nil, gv_0, gv_1, gv_2, gv_3, pv_0, pv_1, va_rf_s, Nat.reduceDiv, Nat.reduceMod, Nat.reduceAdd, Nat.reduceMul, Int.reduceToNat, true_and, and_true, and_self, cP_eq, cP_ne, cP_lt, cP_ge, cP_gt, cP_le, eL_i, eL_l, eL_r, eL_n, Option.toList_none, Option.toList_some, List.nil_append, List.cons_append, iI_add]
            exact ih (i + 1) _ _ g8 (by omega) (by omega) (by omega) f8 w8
          refine ⟨fun c => fin g9 hf fun m hm => ?_, fun c => ?_⟩
          · rw [hw m hm, pS_s (by omega), c, Int.zero_mul, Int.add_zero]
          · refine vs_ok 6 ?_
            rw [show ((gRes 72).drop 67).take 6 = [.aload 0, .lload 7, .iload 6, .aload 2, .iload 3, .invokevirtual 73] from rfl]
            simp only [vs_iv, vs_aload0, vs_aload2, vs_iload3, vs_iload6, vs_lload7, vs_nil, gv_0, gv_1, gv_2, gv_3, pv_0, pv_1, va_rf_s, Nat.reduceDiv, Nat.reduceMod, Nat.reduceAdd, Nat.reduceMul, Int.reduceToNat, true_and, and_true, and_self, cP_eq, cP_ne, cP_lt, cP_ge, cP_gt, cP_le, eL_i, eL_l, eL_r, eL_n, Option.toList_none, Option.toList_some, List.nil_append, List.cons_append]
            refine PW.iv rfl rfl rfl g19.1 g19.2.1 (le_b rfl) (le_b rfl) ?_
            refine t_spread g19 vb9 hapb hmi ⟨by omega, by omega⟩ (fun j hj m hm => ?_) (fun g8 f8 w8 => ⟨rfl, ⟨f8.2.2.1, rfl⟩, fin g8 (hf.tr f8) fun m hm => ?_⟩)
            · rw [← hlow, ← hhigh] at hok
              unfold sg at hm
              by_cases c0 : mi = 0
              · simp only [c0, if_true] at hm hok
                omega
              · simp only [c0, if_false] at hm hok
                omega
            · rw [w8, hw m hm, lI_add, pS_s (by omega)]
      refine loop _ la _ _ g rfl (by omega) (by omega) fr.rf fun m hm => ?_
      rw [g5, pS_zero (fun q q1 q2 => by rw [hv.2.2.2.2.2.2 q (by omega), Int.zero_mul])]
      rfl
    refine vs_ok 3 ?_
    rw [show ((gRes 72).drop 13).take 3 = [.istore 4, .iload 3, .ifCond .eq 22] from rfl]
    simp only [vs_ifCond, vs_iload3, vs_istore4n, vs_istore4i, vs_istore4r, vs_istore4l, vs_nil, gv_0, gv_1, gv_2, gv_3, pv_0, pv_1, va_rf_s, Nat.reduceDiv, Nat.reduceMod, Nat.reduceAdd, Nat.reduceMul, Int.reduceToNat, true_and, and_true, and_self, cP_eq, cP_ne, cP_lt, cP_ge, cP_gt, cP_le, eL_i, eL_l, eL_r, eL_n, Option.toList_none, Option.toList_some, List.nil_append, List.cons_append]
    refine ⟨fun c => ?_, fun c => ?_⟩
    · refine vs_ok 5 ?_
      rw [show ((gRes 72).drop 22).take 5 = [.aload 1, .getfield 6030, .aload 2, .getfield 6030, .iadd] from rfl]
      simp only [vs_iadd, vs_getfield, vs_aload1, vs_aload2, vs_nil, gv_0, gv_1, gv_2, gv_3, pv_0, pv_1, va_rf_s, Nat.reduceDiv, Nat.reduceMod, Nat.reduceAdd, Nat.reduceMul, Int.reduceToNat, true_and, and_true, and_self, cP_eq, cP_ne, cP_lt, cP_ge, cP_gt, cP_le, eL_i, eL_l, eL_r, eL_n, Option.toList_none, Option.toList_some, List.nil_append, List.cons_append, hv.1.1, hv.1.2.1, ho.1.1, ho.1.2.1, hv.2.2.1, ho.2.2.1, iI_add]
      rw [if_pos c] at hhigh
      rw [hhigh]
      exact p27
    · refine vs_ok 6 ?_
      rw [show ((gRes 72).drop 16).take 6 = [.aload 1, .getfield 6030, .aload 2, .getfield 6020, .isub, .goto 27] from rfl]
      simp only [vs_isub, vs_goto, vs_getfield, vs_aload1, vs_aload2, vs_nil, gv_0, gv_1, gv_2, gv_3, pv_0, pv_1, va_rf_s, Nat.reduceDiv, Nat.reduceMod, Nat.reduceAdd, Nat.reduceMul, Int.reduceToNat, true_and, and_true, and_self, cP_eq, cP_ne, cP_lt, cP_ge, cP_gt, cP_le, eL_i, eL_l, eL_r, eL_n, Option.toList_none, Option.toList_some, List.nil_append, List.cons_append, hv.1.1, hv.1.2.1, ho.1.1, ho.1.2.1, hv.2.2.1, ho.2.1, iI_sub]
      rw [if_neg c] at hhigh
      rw [hhigh]
      exact p27
  refine vs_ok 2 ?_
  rw [show ((gRes 72).drop 0).take 2 = [.iload 3, .ifCond .eq 8] from rfl]
  simp only [vs_ifCond, vs_iload3, vs_nil, gv_0, gv_1, gv_2, gv_3, pv_0, pv_1, va_rf_s, Nat.reduceDiv, Nat.reduceMod, Nat.reduceAdd, Nat.reduceMul, Int.reduceToNat, true_and, and_true, and_self, cP_eq, cP_ne, cP_lt, cP_ge, cP_gt, cP_le, eL_i, eL_l, eL_r, eL_n, Option.toList_none, Option.toList_some, List.nil_append, List.cons_append]
  refine ⟨fun c => ?_, fun c => ?_⟩
  · refine vs_ok 5 ?_
    rw [show ((gRes 72).drop 8).take 5 = [.aload 1, .getfield 6020, .aload 2, .getfield 6020, .iadd] from rfl]
    simp only [vs_iadd, vs_getfield, vs_aload1, vs_aload2, vs_nil, gv_0, gv_1, gv_2, gv_3, pv_0, pv_1, va_rf_s, Nat.reduceDiv, Nat.reduceMod, Nat.reduceAdd, Nat.reduceMul, Int.reduceToNat, true_and, and_true, and_self, cP_eq, cP_ne, cP_lt, cP_ge, cP_gt, cP_le, eL_i, eL_l, eL_r, eL_n, Option.toList_none, Option.toList_some, List.nil_append, List.cons_append, hv.1.1, hv.1.2.1, ho.1.1, ho.1.2.1, hv.2.1, ho.2.1, iI_add]
    rw [if_pos c] at hlow
    rw [hlow]
    exact p13
  · refine vs_ok 6 ?_
    rw [show ((gRes 72).drop 2).take 6 = [.aload 1, .getfield 6020, .aload 2, .getfield 6030, .isub, .goto 13] from rfl]
    simp only [vs_isub, vs_goto, vs_getfield, vs_aload1, vs_aload2, vs_nil, gv_0, gv_1, gv_2, gv_3, pv_0, pv_1, va_rf_s, Nat.reduceDiv, Nat.reduceMod, Nat.reduceAdd, Nat.reduceMul, Int.reduceToNat, true_and, and_true, and_self, cP_eq, cP_ne, cP_lt, cP_ge, cP_gt, cP_le, eL_i, eL_l, eL_r, eL_n, Option.toList_none, Option.toList_some, List.nil_append, List.cons_append, hv.1.1, hv.1.2.1, ho.1.1, ho.1.2.1, hv.2.1, ho.2.2.1, iI_sub]
    rw [if_neg c] at hlow
    rw [hlow]
    exact p13
