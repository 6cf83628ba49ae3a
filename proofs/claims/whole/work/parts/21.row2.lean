/-! Row: copy, spread, takeSum -/
/-- the cells of rows r and o are apart -/
abbrev apt (r o : Nat) : Prop := o ≠ r ∧ o + 1 ≠ r ∧ o ≠ r + 1
theorem t_atV {d : Nat} {h : Hp} {r rc : Nat} {lo hi tot n : Int} {W : Int → Int} {Q : Nat → Option Value → Hp → Prop} (hv : rowV h r rc lo hi tot W) (hn : -1000000 ≤ n ∧ n ≤ 1000000) (hq : Q 0 (some (.long (lI (W n)))) h) : PR d m_Row_at [.ref r, .int (iI n)] h Q := by
  refine t_at hv.1 hn ?_
  rw [hv.2.2.2.2.2.1 n]
  exact hq
theorem t_copy {d : Nat} {h : Hp} {r rc o rc2 : Nat} {lo hi tot lo0 hi0 tot0 : Int} {W W0 : Int → Int} {Q : Nat → Option Value → Hp → Prop} (hv : rowV h r rc lo0 hi0 tot0 W0) (ho : rowV h o rc2 lo hi tot W) (hap : apt r o) (hb : -rc ≤ lo ∧ hi ≤ rc)
    (hq : ∀ h', fr (rS r) h h' → rowV h' r rc lo hi tot W → Q 0 none h') : PR (d + 2) m_Row_copy [.ref r, .ref o] h Q := by
  have hrc := hv.1.2.2.2.2.2.2.2
  obtain ⟨hv1, -⟩ := id hv
  obtain ⟨ho1, ho2, ho3, ho4, ho5, ho6, ho7⟩ := id ho
  show PW (d + 2) 71 0 [some (.ref r), some (.ref o), none] [] h Q
  refine vs_ok 8 ?_
  rw [show ((gRes 71).drop 0).take 8 = [.aload 0, .aload 1, .getfield 6020, .aload 1, .getfield 6030, .aload 1, .getfield 6041, .invokevirtual 68] from rfl]
  simp only [vs_getfield, vs_iv, vs_aload0, vs_aload1, vs_nil, gv_0, gv_1, gv_2, gv_3, pv_0, pv_1, va_rf_s, Nat.reduceDiv, Nat.reduceMod, Nat.reduceAdd, Nat.reduceMul, Int.reduceToNat, true_and, and_true, and_self, cP_eq, cP_ne, cP_lt, cP_ge, cP_gt, cP_le, eL_i, eL_l, eL_r, eL_n, Option.toList_none, Option.toList_some, List.nil_append, List.cons_append, hv1.1, hv1.2.1, ho1.1, ho1.2.1, ho2, ho3, ho4]
  refine PW.iv rfl rfl rfl hv1.1 hv1.2.1 (le_b rfl) (le_b rfl) ?_
  refine t_blankV hv fun g f1 g1 g2 g3 g4 g5 => ⟨rfl, ⟨f1.2.2.1, rfl⟩, ?_⟩
  refine vs_ok 3 ?_
  rw [show ((gRes 71).drop 8).take 3 = [.aload 0, .getfield 6020, .istore 2] from rfl]
  simp only [vs_getfield, vs_aload0, vs_istore2n, vs_istore2i, vs_istore2r, vs_istore2l, vs_nil, gv_0, gv_1, gv_2, gv_3, pv_0, pv_1, va_rf_s, Nat.reduceDiv, Nat.reduceMod, Nat.reduceAdd, Nat.reduceMul, Int.reduceToNat, true_and, and_true, and_self, cP_eq, cP_ne, cP_lt, cP_ge, cP_gt, cP_le, eL_i, eL_l, eL_r, eL_n, Option.toList_none, Option.toList_some, List.nil_append, List.cons_append, g1.1, g1.2.1, g2]
  have loop : ∀ (k : Nat) (n : Int) (g : Hp), k = (hi + 1 - n).toNat → lo ≤ n → n ≤ hi + 1 → fr (rS r) h g → isRow g r rc → zI g r 2 = iI lo → zI g r 3 = iI hi → zJ g r 4 = lI tot → (∀ m, wAt g (r + 1) rc m = if m < n then lI (W m) else 0) → PW (d + 2) 71 11 [some (.ref r), some (.ref o), some (.int (iI n))] [] g Q := by
    intro k
    induction k with
    | zero =>
      intro n g hk hn1 hn2 hf g1 g2 g3 g4 hw
      refine vs_ok 4 ?_
      rw [show ((gRes 71).drop 11).take 4 = [.iload 2, .aload 0, .getfield 6030, .if_icmp .gt 23] from rfl]
      simp only [vs_if_icmp, vs_getfield, vs_aload0, vs_iload2, vs_nil, gv_0, gv_1, gv_2, gv_3, pv_0, pv_1, va_rf_s, Nat.reduceDiv, Nat.reduceMod, Nat.reduceAdd, Nat.reduceMul, Int.reduceToNat, true_and, and_true, and_self, cP_eq, cP_ne, cP_lt, cP_ge, cP_gt, cP_le, eL_i, eL_l, eL_r, eL_n, Option.toList_none, Option.toList_some, List.nil_append, List.cons_append, g1.1, g1.2.1, g3]
      rw [iI_lt (by constructor <;> omega) (by constructor <;> omega)]
      refine ⟨fun _ => ?_, fun c => absurd (show hi < n by omega) c⟩
      refine vs_ok 1 ?_
      rw [show ((gRes 71).drop 23).take 1 = [.return_] from rfl]
      simp only [vs_return_, vs_nil, gv_0, gv_1, gv_2, gv_3, pv_0, pv_1, va_rf_s, Nat.reduceDiv, Nat.reduceMod, Nat.reduceAdd, Nat.reduceMul, Int.reduceToNat, true_and, and_true, and_self, cP_eq, cP_ne, cP_lt, cP_ge, cP_gt, cP_le, eL_i, eL_l, eL_r, eL_n, Option.toList_none, Option.toList_some, List.nil_append, List.cons_append]
      refine ⟨by decide, hq g hf ⟨g1, g2, g3, g4, ⟨hb.1, hb.2, ho5.2.2⟩, fun m => ?_, ho7⟩⟩
      rw [hw]
      split
      · rfl
      · rw [ho7 m (by omega)]
        rfl
    | succ k ih =>
      intro n g hk hn1 hn2 hf g1 g2 g3 g4 hw
      refine vs_ok 4 ?_
      rw [show ((gRes 71).drop 11).take 4 = [.iload 2, .aload 0, .getfield 6030, .if_icmp .gt 23] from rfl]
      simp only [vs_if_icmp, vs_getfield, vs_aload0, vs_iload2, vs_nil, gv_0, gv_1, gv_2, gv_3, pv_0, pv_1, va_rf_s, Nat.reduceDiv, Nat.reduceMod, Nat.reduceAdd, Nat.reduceMul, Int.reduceToNat, true_and, and_true, and_self, cP_eq, cP_ne, cP_lt, cP_ge, cP_gt, cP_le, eL_i, eL_l, eL_r, eL_n, Option.toList_none, Option.toList_some, List.nil_append, List.cons_append, g1.1, g1.2.1, g3]
      rw [iI_lt (by constructor <;> omega) (by constructor <;> omega)]
      refine ⟨fun c => absurd c (by omega), fun _ => ?_⟩
      refine vs_ok 5 ?_
      rw [show ((gRes 71).drop 15).take 5 = [.aload 0, .iload 2, .aload 1, .iload 2, .invokevirtual 66] from rfl]
      simp only [vs_iv, vs_aload0, vs_aload1, vs_iload2, vs_nil, gv_0, gv_1, gv_2, gv_3, pv_0, pv_1, va_rf_s, Nat.reduceDiv, Nat.reduceMod, Nat.reduceAdd, Nat.reduceMul, Int.reduceToNat, true_and, and_true, and_self, cP_eq, cP_ne, cP_lt, cP_ge, cP_gt, cP_le, eL_i, eL_l, eL_r, eL_n, Option.toList_none, Option.toList_some, List.nil_append, List.cons_append]
      have og := ho.keep hf (by rintro (z | z) <;> omega) (by rintro (z | z) <;> omega)
      refine PW.iv rfl rfl rfl og.1.1 og.1.2.1 (le_b rfl) (le_b rfl) ?_
      refine t_atV og ⟨by omega, by omega⟩ ⟨rfl, ⟨rfl, rfl⟩, ?_⟩
      refine vs_ok 1 ?_
      rw [show ((gRes 71).drop 20).take 1 = [.invokevirtual 67] from rfl]
      simp only [vs_iv, vs_nil, gv_0, gv_1, gv_2, gv_3, pv_0, pv_1, va_rf_s, Nat.reduceDiv, Nat.reduceMod, Nat.reduceAdd, Nat.reduceMul, Int.reduceToNat, true_and, and_true, and_self, cP_eq, cP_ne, cP_lt, cP_ge, cP_gt, cP_le, eL_i, eL_l, eL_r, eL_n, Option.toList_none, Option.toList_some, List.nil_append, List.cons_append]
      refine PW.iv rfl rfl rfl g1.1 g1.2.1 (le_b rfl) (le_b rfl) ?_
      refine t_put g1 ⟨by omega, by omega⟩ fun g' f2 w2 => ⟨rfl, ⟨f2.2.2.1, rfl⟩, ?_⟩
      refine vs_ok 2 ?_
      rw [show ((gRes 71).drop 21).take 2 = [.iinc 2 1, .goto 11] from rfl]
      simp only [vs_goto, vs_iinc2n, vs_iinc2i, vs_iinc2r, vs_iinc2l, vs_nil, gv_0, gv_1, gv_2, gv_3, pv_0, pv_1, va_rf_s, Nat.reduceDiv, Nat.reduceMod, Nat.reduceAdd, Nat.reduceMul, Int.reduceToNat, true_and, and_true, and_self, cP_eq, cP_ne, cP_lt, cP_ge, cP_gt, cP_le, eL_i, eL_l, eL_r, eL_n, Option.toList_none, Option.toList_some, List.nil_append, List.cons_append, iI_add]
      have eI := f2.2.2.2.2.2.1 r (by omega)
      have eJ := f2.2.2.2.2.2.2.1 r (by omega)
      have eR := f2.2.2.2.2.2.2.2 r (by omega)
      refine ih (n + 1) g' (by omega) (by omega) (by omega) (hf.tr (f2.wk fun _ z => Or.inr z)) (g1.fr f2 (by rw [eI]) (by rw [eR])) (by rw [eI]; exact g2) (by rw [eI]; exact g3) (by rw [eJ]; exact g4) fun m => ?_
      rw [w2, hw]
      by_cases hm : m = n
      · subst hm
        rw [if_pos ⟨rfl, by omega, by omega⟩, if_pos (by omega)]
      · rw [if_neg (fun z => hm z.1)]
        by_cases hm2 : m < n
        · rw [if_pos hm2, if_pos (by omega)]
        · rw [if_neg hm2, if_neg (by omega)]
  refine loop _ lo g rfl (by omega) (by omega) f1 g1 g2 g3 g4 fun m => ?_
  rw [g5]
  split
  · rw [ho7 m (by omega)]
    rfl
  · rfl
/-- which number of b goes to m -/
def sg (mi : Int32) (from0 m : Int) : Int := if mi = 0 then m - from0 else from0 - m
theorem t_spread {d : Nat} {h : Hp} {r rc o rc2 : Nat} {lo hi tot many from0 : Int} {W : Int → Int} {mi : Int32} {Q : Nat → Option Value → Hp → Prop} (hr : isRow h r rc) (ho : rowV h o rc2 lo hi tot W) (hap : apt r o) (hmi : mi = 0 ∨ mi = 1) (hfr : -10000 ≤ from0 ∧ from0 ≤ 10000) (hb : ∀ j, lo ≤ j ∧ j ≤ hi → ∀ m, sg mi from0 m = j → -rc ≤ m ∧ m ≤ rc)
    (hq : ∀ h', fr (fun q => q = r + 1) h h' → (∀ m, wAt h' (r + 1) rc m = wAt h (r + 1) rc m + lI (many * W (sg mi from0 m))) → Q 0 none h') : PR (d + 1) m_Row_spread [.ref r, .long (lI many), .int (iI from0), .ref o, .int mi] h Q := by
  have hrc := hr.2.2.2.2.2.2.2
  have hrc2 := ho.1.2.2.2.2.2.2.2
  obtain ⟨ho1, ho2, ho3, ho4, ho5, ho6, ho7⟩ := id ho
  show PW (d + 1) 73 0 [some (.ref r), some (.long (lI many)), none, some (.int (iI from0)), some (.ref o), some (.int mi), none, none] [] h Q
  refine vs_ok 3 ?_
  rw [show ((gRes 73).drop 0).take 3 = [.aload 4, .getfield 6020, .istore 6] from rfl]
  simp only [vs_getfield, vs_aload4, vs_istore6n, vs_istore6i, vs_istore6r, vs_istore6l, vs_nil, gv_0, gv_1, gv_2, gv_3, pv_0, pv_1, va_rf_s, Nat.reduceDiv, Nat.reduceMod, Nat.reduceAdd, Nat.reduceMul, Int.reduceToNat, true_and, and_true, and_self, cP_eq, cP_ne, cP_lt, cP_ge, cP_gt, cP_le, eL_i, eL_l, eL_r, eL_n, Option.toList_none, Option.toList_some, List.nil_append, List.cons_append, ho1.1, ho1.2.1, ho2]
  have loop : ∀ (k : Nat) (j : Int) (o9 : Option Value) (g : Hp), (o9 = none ∨ ∃ x, o9 = some (.int x)) → k = (hi + 1 - j).toNat → lo ≤ j → j ≤ hi + 1 → fr (fun q => q = r + 1) h g → (∀ m, wAt g (r + 1) rc m = wAt h (r + 1) rc m + lI (many * (if sg mi from0 m < j then W (sg mi from0 m) else 0))) → PW (d + 1) 73 3 [some (.ref r), some (.long (lI many)), none, some (.int (iI from0)), some (.ref o), some (.int mi), some (.int (iI j)), o9] [] g Q := by
    intro k
    induction k with
    | zero =>
      intro j o9 g ho9 hk hj1 hj2 hf hw
      have og := ho.keep hf (by omega) (by omega)
      refine vs_ok 4 ?_
      rw [show ((gRes 73).drop 3).take 4 = [.iload 6, .aload 4, .getfield 6030, .if_icmp .gt 31] from rfl]
      simp only [vs_if_icmp, vs_getfield, vs_aload4, vs_iload6, vs_nil, gv_0, gv_1, gv_2, gv_3, pv_0, pv_1, va_rf_s, Nat.reduceDiv, Nat.reduceMod, Nat.reduceAdd, Nat.reduceMul, Int.reduceToNat, true_and, and_true, and_self, cP_eq, cP_ne, cP_lt, cP_ge, cP_gt, cP_le, eL_i, eL_l, eL_r, eL_n, Option.toList_none, Option.toList_some, List.nil_append, List.cons_append, og.1.1, og.1.2.1, og.2.2.1]
      rw [iI_lt (by constructor <;> omega) (by constructor <;> omega)]
      refine ⟨fun _ => ?_, fun c => absurd (show hi < j by omega) c⟩
      refine vs_ok 1 ?_
      rw [show ((gRes 73).drop 31).take 1 = [.return_] from rfl]
      simp only [vs_return_, vs_nil, gv_0, gv_1, gv_2, gv_3, pv_0, pv_1, va_rf_s, Nat.reduceDiv, Nat.reduceMod, Nat.reduceAdd, Nat.reduceMul, Int.reduceToNat, true_and, and_true, and_self, cP_eq, cP_ne, cP_lt, cP_ge, cP_gt, cP_le, eL_i, eL_l, eL_r, eL_n, Option.toList_none, Option.toList_some, List.nil_append, List.cons_append]
      refine ⟨by decide, hq g hf fun m => ?_⟩
      rw [hw]
      split
      · rfl
      · rw [ho7 (sg mi from0 m) (by omega)]
    | succ k ih =>
      intro j o9 g ho9 hk hj1 hj2 hf hw
      have og := ho.keep hf (by omega) (by omega)
      have eI := hf.2.2.2.2.2.1 r (by omega)
      have eR := hf.2.2.2.2.2.2.2 r (by omega)
      have g1 := hr.fr hf (by rw [eI]) (by rw [eR])
      refine vs_ok 4 ?_
      rw [show ((gRes 73).drop 3).take 4 = [.iload 6, .aload 4, .getfield 6030, .if_icmp .gt 31] from rfl]
      simp only [vs_if_icmp, vs_getfield, vs_aload4, vs_iload6, vs_nil, gv_0, gv_1, gv_2, gv_3, pv_0, pv_1, va_rf_s, Nat.reduceDiv, Nat.reduceMod, Nat.reduceAdd, Nat.reduceMul, Int.reduceToNat, true_and, and_true, and_self, cP_eq, cP_ne, cP_lt, cP_ge, cP_gt, cP_le, eL_i, eL_l, eL_r, eL_n, Option.toList_none, Option.toList_some, List.nil_append, List.cons_append, og.1.1, og.1.2.1, og.2.2.1]
      rw [iI_lt (by constructor <;> omega) (by constructor <;> omega)]
      refine ⟨fun c => absurd c (by omega), fun _ => ?_⟩
      -- the number n that j goes to
      obtain ⟨n, hn, hn2⟩ : ∃ n : Int, sg mi from0 n = j ∧ (n = if mi = 0 then from0 + j else from0 - j) := by
        refine ⟨if mi = 0 then from0 + j else from0 - j, ?_, rfl⟩
        unfold sg
        split <;> omega
      have hnb := hb j ⟨by omega, by omega⟩ n hn
      have goon : PW (d + 1) 73 16 [some (.ref r), some (.long (lI many)), none, some (.int (iI from0)), some (.ref o), some (.int mi), some (.int (iI j)), o9] [.int (iI n)] g Q := by
        refine vs_ok 6 ?_
        rw [show ((gRes 73).drop 16).take 6 = [.istore 7, .aload 0, .iload 7, .aload 0, .iload 7, .invokevirtual 66] from rfl]
        simp only [vs_iv, vs_aload0, vs_iload7, vs_istore7n, vs_istore7i, vs_istore7r, vs_istore7l, vs_nil, gv_0, gv_1, gv_2, gv_3, pv_0, pv_1, va_rf_s, Nat.reduceDiv, Nat.reduceMod, Nat.reduceAdd, Nat.reduceMul, Int.reduceToNat, true_and, and_true, and_self, cP_eq, cP_ne, cP_lt, cP_ge, cP_gt, cP_le, eL_i, eL_l, eL_r, eL_n, Option.toList_none, Option.toList_some, List.nil_append, List.cons_append]
        refine PW.iv rfl rfl rfl g1.1 g1.2.1 (le_b rfl) (le_b rfl) ?_
        refine t_at g1 ⟨by omega, by omega⟩ ⟨rfl, ⟨rfl, rfl⟩, ?_⟩
        refine vs_ok 4 ?_
        rw [show ((gRes 73).drop 22).take 4 = [.lload 1, .aload 4, .iload 6, .invokevirtual 66] from rfl]
        simp only [vs_iv, vs_lload1, vs_aload4, vs_iload6, vs_nil, gv_0, gv_1, gv_2, gv_3, pv_0, pv_1, va_rf_s, Nat.reduceDiv, Nat.reduceMod, Nat.reduceAdd, Nat.reduceMul, Int.reduceToNat, true_and, and_true, and_self, cP_eq, cP_ne, cP_lt, cP_ge, cP_gt, cP_le, eL_i, eL_l, eL_r, eL_n, Option.toList_none, Option.toList_some, List.nil_append, List.cons_append]
        refine PW.iv rfl rfl rfl og.1.1 og.1.2.1 (le_b rfl) (le_b rfl) ?_
        refine t_atV og ⟨by omega, by omega⟩ ⟨rfl, ⟨rfl, rfl⟩, ?_⟩
        refine vs_ok 3 ?_
        rw [show ((gRes 73).drop 26).take 3 = [.lmul, .ladd, .invokevirtual 67] from rfl]
        simp only [vs_ladd, vs_lmul, vs_iv, vs_nil, gv_0, gv_1, gv_2, gv_3, pv_0, pv_1, va_rf_s, Nat.reduceDiv, Nat.reduceMod, Nat.reduceAdd, Nat.reduceMul, Int.reduceToNat, true_and, and_true, and_self, cP_eq, cP_ne, cP_lt, cP_ge, cP_gt, cP_le, eL_i, eL_l, eL_r, eL_n, Option.toList_none, Option.toList_some, List.nil_append, List.cons_append, lI_mul]
        refine PW.iv rfl rfl rfl g1.1 g1.2.1 (le_b rfl) (le_b rfl) ?_
        refine t_put g1 ⟨by omega, by omega⟩ fun g' f2 w2 => ⟨rfl, ⟨f2.2.2.1, rfl⟩, ?_⟩
        refine vs_ok 2 ?_
        rw [show ((gRes 73).drop 29).take 2 = [.iinc 6 1, .goto 3] from rfl]
        simp only [vs_goto, vs_iinc6n, vs_iinc6i, vs_iinc6r, vs_iinc6l, vs_nil, gv_0, gv_1, gv_2, gv_3, pv_0, pv_1, va_rf_s, Nat.reduceDiv, Nat.reduceMod, Nat.reduceAdd, Nat.reduceMul, Int.reduceToNat, true_and, and_true, and_self, cP_eq, cP_ne, cP_lt, cP_ge, cP_gt, cP_le, eL_i, eL_l, eL_r, eL_n, Option.toList_none, Option.toList_some, List.nil_append, List.cons_append, iI_add]
        refine ih (j + 1) _ g' (Or.inr ⟨_, rfl⟩) (by omega) (by omega) (by omega) (hf.tr f2) fun m => ?_
        rw [w2, hw, hw]
        have inj : sg mi from0 m = j → m = n := fun z => by
          rw [← hn] at z
          unfold sg at z
          split at z <;> omega
        by_cases hm : m = n
        · subst hm
          rw [if_pos ⟨rfl, by omega, by omega⟩, if_neg (by omega), if_pos (by omega), hn]
          simp [lI_0]
        · rw [if_neg (fun z => hm z.1)]
          by_cases hm2 : sg mi from0 m < j
          · rw [if_pos hm2, if_pos (by omega)]
          · rw [if_neg hm2, if_neg (by have : sg mi from0 m ≠ j := fun z => hm (inj z); omega)]
      refine vs_ok 2 ?_
      rw [show ((gRes 73).drop 7).take 2 = [.iload 5, .ifCond .eq 13] from rfl]
      simp only [vs_ifCond, vs_iload5, vs_nil, gv_0, gv_1, gv_2, gv_3, pv_0, pv_1, va_rf_s, Nat.reduceDiv, Nat.reduceMod, Nat.reduceAdd, Nat.reduceMul, Int.reduceToNat, true_and, and_true, and_self, cP_eq, cP_ne, cP_lt, cP_ge, cP_gt, cP_le, eL_i, eL_l, eL_r, eL_n, Option.toList_none, Option.toList_some, List.nil_append, List.cons_append]
      refine ⟨fun c => ?_, fun c => ?_⟩
      · rw [if_pos c] at hn2
        refine vs_ok 3 ?_
        rw [show ((gRes 73).drop 13).take 3 = [.iload 3, .iload 6, .iadd] from rfl]
        simp only [vs_iadd, vs_iload3, vs_iload6, vs_nil, gv_0, gv_1, gv_2, gv_3, pv_0, pv_1, va_rf_s, Nat.reduceDiv, Nat.reduceMod, Nat.reduceAdd, Nat.reduceMul, Int.reduceToNat, true_and, and_true, and_self, cP_eq, cP_ne, cP_lt, cP_ge, cP_gt, cP_le, eL_i, eL_l, eL_r, eL_n, Option.toList_none, Option.toList_some, List.nil_append, List.cons_append, iI_add]
        rw [← hn2]
        exact goon
      · rw [if_neg c] at hn2
        refine vs_ok 4 ?_
        rw [show ((gRes 73).drop 9).take 4 = [.iload 3, .iload 6, .isub, .goto 16] from rfl]
        simp only [vs_isub, vs_goto, vs_iload3, vs_iload6, vs_nil, gv_0, gv_1, gv_2, gv_3, pv_0, pv_1, va_rf_s, Nat.reduceDiv, Nat.reduceMod, Nat.reduceAdd, Nat.reduceMul, Int.reduceToNat, true_and, and_true, and_self, cP_eq, cP_ne, cP_lt, cP_ge, cP_gt, cP_le, eL_i, eL_l, eL_r, eL_n, Option.toList_none, Option.toList_some, List.nil_append, List.cons_append, iI_sub]
        rw [← hn2]
        exact goon
  refine loop _ lo none h (Or.inl rfl) rfl (by omega) (by omega) fr.rf fun m => ?_
  split
  · rw [ho7 (sg mi from0 m) (by omega)]
    simp [lI_0]
  · simp [lI_0]
