/-! Row: takeEnd, addFace -/
/-- the i-th number towards an end -/
def nmE (mi : Int32) (low high i : Int) : Int := if mi = 0 then high - i else low + i
/-- WAYS passed ahead of the i-th -/
def psE (mi : Int32) (low high : Int) (W : Int → Int) (i : Int) : Int := sm (fun j => W (nmE mi low high j)) 0 i.toNat
theorem psE_s {mi : Int32} {low high i : Int} {W : Int → Int} (hi : 0 ≤ i) : psE mi low high W (i + 1) = psE mi low high W i + W (nmE mi low high i) := by
  unfold psE
  rw [show (i + 1).toNat = i.toNat + 1 by omega]
  show sm _ 0 i.toNat + W (nmE mi low high (0 + (i.toNat : Int))) = _
  rw [show (0 + (i.toNat : Int)) = i by omega]
theorem psE_0 {mi : Int32} {low high i : Int} {W : Int → Int} (h : ∀ j, 0 ≤ j → j < i → W (nmE mi low high j) = 0) : psE mi low high W i = 0 := sm_zero _ fun j hj => h _ (by omega) (by omega)
/-- WAYS in which the greater (lesser) of two is the i-th -/
def enE (mi : Int32) (low high : Int) (Wa Wb : Int → Int) (i : Int) : Int := Wa (nmE mi low high i) * (psE mi low high Wb i + Wb (nmE mi low high i)) + psE mi low high Wa i * Wb (nmE mi low high i)
def idE (mi : Int32) (low high m : Int) : Int := if mi = 0 then high - m else m - low
def enV (mi : Int32) (low high : Int) (Wa Wb : Int → Int) (m : Int) : Int := if low ≤ m ∧ m ≤ high then enE mi low high Wa Wb (idE mi low high m) else 0
theorem t_takeEnd {d : Nat} {h : Hp} {r rc a ra b rb : Nat} {l0 h0 t0 la ha ta lb hb tb : Int} {W0 Wa Wb : Int → Int} {mi : Int32} {Q : Nat → Option Value → Hp → Prop} (hr : rowV h r rc l0 h0 t0 W0) (hv : rowV h a ra la ha ta Wa) (ho : rowV h b rb lb hb tb Wb) (hap : apt r a) (hap2 : apt r b) (hrr : ra ≤ rc ∧ rb ≤ rc)
    (hq : ∀ h', fr (rS r) h h' → rowV h' r rc (if mi = 0 then min la lb else max la lb) (if mi = 0 then min ha hb else max ha hb) (ta * tb) (enV mi (min la lb) (max ha hb) Wa Wb) → Q 0 none h') : PR (d + 2) m_Row_takeEnd [.ref r, .ref a, .ref b, .int mi] h Q := by
  have hrc := hr.1.2.2.2.2.2.2.2
  have va5 := hv.2.2.2.2.1
  have vb5 := ho.2.2.2.2.1
  obtain ⟨low, hlow⟩ : ∃ low, low = min la lb := ⟨_, rfl⟩
  obtain ⟨high, hhigh⟩ : ∃ high, high = max ha hb := ⟨_, rfl⟩
  rw [← hlow, ← hhigh] at hq
  show PW (d + 2) 75 0 [some (.ref r), some (.ref a), some (.ref b), some (.int mi), none, none, none, none, none, none, none, none] [] h Q
  refine vs_ok 6 ?_
  rw [show ((gRes 75).drop 0).take 6 = [.aload 1, .getfield 6020, .aload 2, .getfield 6020, .invokedynamic 3, .istore 4] from rfl]
  simp only [vs_getfield, vs_aload1, vs_aload2, vs_istore4n, vs_istore4i, vs_istore4r, vs_istore4l, vs_nil, gv_0, gv_1, gv_2, gv_3, pv_0, pv_1, va_rf_s, vs_abs, vs_max, vs_min, vs_oinit, Nat.reduceDiv, Nat.reduceMod, Nat.reduceAdd, Nat.reduceMul, Int.reduceToNat, true_and, and_true, and_self, cP_eq, cP_ne, cP_lt, cP_ge, cP_gt, cP_le, eL_i, eL_l, eL_r, eL_n, Option.toList_none, Option.toList_some, List.nil_append, List.cons_append, hv.1.1, hv.1.2.1, ho.1.1, ho.1.2.1, hv.2.1, ho.2.1]
  rw [imin (by constructor <;> omega) (by constructor <;> omega), ← hlow]
  refine ⟨le_b rfl, ?_⟩
  refine vs_ok 6 ?_
  rw [show ((gRes 75).drop 6).take 6 = [.aload 1, .getfield 6030, .aload 2, .getfield 6030, .invokedynamic 2, .istore 5] from rfl]
  simp only [vs_getfield, vs_aload1, vs_aload2, vs_istore5n, vs_istore5i, vs_istore5r, vs_istore5l, vs_nil, gv_0, gv_1, gv_2, gv_3, pv_0, pv_1, va_rf_s, vs_abs, vs_max, vs_min, vs_oinit, Nat.reduceDiv, Nat.reduceMod, Nat.reduceAdd, Nat.reduceMul, Int.reduceToNat, true_and, and_true, and_self, cP_eq, cP_ne, cP_lt, cP_ge, cP_gt, cP_le, eL_i, eL_l, eL_r, eL_n, Option.toList_none, Option.toList_some, List.nil_append, List.cons_append, hv.1.1, hv.1.2.1, ho.1.1, ho.1.2.1, hv.2.2.1, ho.2.2.1]
  rw [imax (by constructor <;> omega) (by constructor <;> omega), ← hhigh]
  refine ⟨le_b rfl, ?_⟩
  have p22 : ∀ nl : Int, nl = (if mi = 0 then low else max la lb) → PW (d + 2) 75 22 [some (.ref r), some (.ref a), some (.ref b), some (.int mi), some (.int (iI low)), some (.int (iI high)), none, none, none, none, none, none] [.int (iI nl), .ref r] h Q := fun nl hnl => by
    have p31 : ∀ nh : Int, nh = (if mi = 0 then min ha hb else high) → PW (d + 2) 75 31 [some (.ref r), some (.ref a), some (.ref b), some (.int mi), some (.int (iI low)), some (.int (iI high)), none, none, none, none, none, none] [.int (iI nh), .int (iI nl), .ref r] h Q := fun nh hnh => by
      refine vs_ok 6 ?_
      rw [show ((gRes 75).drop 31).take 6 = [.aload 1, .getfield 6041, .aload 2, .getfield 6041, .lmul, .invokevirtual 68] from rfl]
      simp only [vs_lmul, vs_getfield, vs_iv, vs_aload1, vs_aload2, vs_nil, gv_0, gv_1, gv_2, gv_3, pv_0, pv_1, va_rf_s, Nat.reduceDiv, Nat.reduceMod, Nat.reduceAdd, Nat.reduceMul, Int.reduceToNat, true_and, and_true, and_self, cP_eq, cP_ne, cP_lt, cP_ge, cP_gt, cP_le, eL_i, eL_l, eL_r, eL_n, Option.toList_none, Option.toList_some, List.nil_append, List.cons_append, hv.1.1, hv.1.2.1, ho.1.1, ho.1.2.1, hv.2.2.2.1, ho.2.2.2.1, lI_mul]
      refine PW.iv rfl rfl rfl hr.1.1 hr.1.2.1 (le_b rfl) (le_b rfl) ?_
      refine t_blankV hr fun g f1 g1 g2 g3 g4 g5 => ⟨rfl, ⟨f1.2.2.1, rfl⟩, ?_⟩
      have va := hv.keep f1 (by rintro (z | z) <;> omega) (by rintro (z | z) <;> omega)
      have vb := ho.keep f1 (by rintro (z | z) <;> omega) (by rintro (z | z) <;> omega)
      refine vs_ok 6 ?_
      rw [show ((gRes 75).drop 37).take 6 = [.jsr_w 0, .lstore 6, .jsr_w 0, .lstore 8, .iconst 0, .istore 10] from rfl]
      simp only [vs_iconst, vs_jsr_w, vs_lstore6n, vs_lstore6i, vs_lstore6r, vs_lstore6l, vs_lstore8n, vs_lstore8i, vs_lstore8r, vs_lstore8l, vs_istore10n, vs_istore10i, vs_istore10r, vs_istore10l, vs_nil, gv_0, gv_1, gv_2, gv_3, pv_0, pv_1, va_rf_s, Nat.reduceDiv, Nat.reduceMod, Nat.reduceAdd, Nat.reduceMul, Int.reduceToNat, true_and, and_true, and_self, cP_eq, cP_ne, cP_lt, cP_ge, cP_gt, cP_le, eL_i, eL_l, eL_r, eL_n, Option.toList_none, Option.toList_some, List.nil_append, List.cons_append]
      have loop : ∀ (k : Nat) (i : Int) (o11 : Option Value) (g9 : Hp), k = (high - low + 1 - i).toNat → 0 ≤ i → i ≤ high - low + 1 → fr (fun q => q = r + 1) g g9 → (∀ m, wAt g9 (r + 1) rc m = lI (if low ≤ m ∧ m ≤ high ∧ idE mi low high m < i then enE mi low high Wa Wb (idE mi low high m) else 0)) → PW (d + 2) 75 43 [some (.ref r), some (.ref a), some (.ref b), some (.int mi), some (.int (iI low)), some (.int (iI high)), some (.long (lI (psE mi low high Wa i))), none, some (.long (lI (psE mi low high Wb i))), none, some (.int (iI i)), o11] [] g9 Q := by
        intro k
        induction k with
        | zero =>
          intro i o11 g9 hk hi1 hi2 hf hw
          have eI := hf.2.2.2.2.2.1 r (by omega)
          have eJ := hf.2.2.2.2.2.2.1 r (by omega)
          have eR := hf.2.2.2.2.2.2.2 r (by omega)
          refine vs_ok 5 ?_
          rw [show ((gRes 75).drop 43).take 5 = [.iload 10, .iload 5, .iload 4, .isub, .if_icmp .gt 90] from rfl]
          simp only [vs_isub, vs_if_icmp, vs_iload4, vs_iload5, vs_iload10, vs_nil, gv_0, gv_1, gv_2, gv_3, pv_0, pv_1, va_rf_s, Nat.reduceDiv, Nat.reduceMod, Nat.reduceAdd, Nat.reduceMul, Int.reduceToNat, true_and, and_true, and_self, cP_eq, cP_ne, cP_lt, cP_ge, cP_gt, cP_le, eL_i, eL_l, eL_r, eL_n, Option.toList_none, Option.toList_some, List.nil_append, List.cons_append, iI_sub]
          rw [iI_lt (by constructor <;> omega) (by constructor <;> omega)]
          refine ⟨fun _ => ?_, fun c => absurd (show high - low < i by omega) c⟩
          refine vs_ok 1 ?_
          rw [show ((gRes 75).drop 90).take 1 = [.return_] from rfl]
          simp only [vs_return_, vs_nil, gv_0, gv_1, gv_2, gv_3, pv_0, pv_1, va_rf_s, Nat.reduceDiv, Nat.reduceMod, Nat.reduceAdd, Nat.reduceMul, Int.reduceToNat, true_and, and_true, and_self, cP_eq, cP_ne, cP_lt, cP_ge, cP_gt, cP_le, eL_i, eL_l, eL_r, eL_n, Option.toList_none, Option.toList_some, List.nil_append, List.cons_append]
          have hm0 : mi = 0 ∨ ¬ mi = 0 := Classical.em _
          refine ⟨by decide, hq g9 (f1.tr (hf.wk fun _ z => Or.inr z)) ⟨g1.fr hf (by rw [eI]) (by rw [eR]), by rw [eI, g2, hnl], by rw [eI, g3, hnh], by rw [eJ]; exact g4, ?_, fun m => ?_, fun m hm => ?_⟩⟩
          · rcases hm0 with c | c
            · simp only [c, if_true]
              omega
            · simp only [c, if_false]
              omega
          · rw [hw m]
            unfold enV
            by_cases c : low ≤ m ∧ m ≤ high
            · rw [if_pos ⟨c.1, c.2, by unfold idE; split <;> omega⟩, if_pos c]
            · rw [if_neg (fun z => c ⟨z.1, z.2.1⟩), if_neg c]
          · unfold enV
            by_cases c : low ≤ m ∧ m ≤ high
            · rw [if_pos c]
              unfold enE
              rcases hm0 with c0 | c0
              · simp only [c0, if_true] at hm
                have en : nmE mi low high (idE mi low high m) = m := by
                  unfold nmE idE
                  rw [if_pos c0, if_pos c0]
                  omega
                rw [en]
                by_cases c1 : ha < m
                · rw [hv.2.2.2.2.2.2 m (by omega), psE_0 (W := Wa) (fun j j1 j2 => hv.2.2.2.2.2.2 _ (by
                    unfold idE at j2
                    unfold nmE
                    rw [if_pos c0] at j2 ⊢
                    omega))]
                  simp
                · rw [ho.2.2.2.2.2.2 m (by omega), psE_0 (W := Wb) (fun j j1 j2 => ho.2.2.2.2.2.2 _ (by
                    unfold idE at j2
                    unfold nmE
                    rw [if_pos c0] at j2 ⊢
                    omega))]
                  simp
              · simp only [c0, if_false] at hm
                have en : nmE mi low high (idE mi low high m) = m := by
                  unfold nmE idE
                  rw [if_neg c0, if_neg c0]
                  omega
                rw [en]
                by_cases c1 : m < la
                · rw [hv.2.2.2.2.2.2 m (by omega), psE_0 (W := Wa) (fun j j1 j2 => hv.2.2.2.2.2.2 _ (by
                    unfold idE at j2
                    unfold nmE
                    rw [if_neg c0] at j2 ⊢
                    omega))]
                  simp
                · rw [ho.2.2.2.2.2.2 m (by omega), psE_0 (W := Wb) (fun j j1 j2 => ho.2.2.2.2.2.2 _ (by
                    unfold idE at j2
                    unfold nmE
                    rw [if_neg c0] at j2 ⊢
                    omega))]
                  simp
            · rw [if_neg c]
        | succ k ih =>
          intro i o11 g9 hk hi1 hi2 hf hw
          have va9 := va.keep hf (by omega) (by omega)
          have vb9 := vb.keep hf (by omega) (by omega)
          have eI := hf.2.2.2.2.2.1 r (by omega)
          have eR := hf.2.2.2.2.2.2.2 r (by omega)
          have g19 := g1.fr hf (by rw [eI]) (by rw [eR])
          refine vs_ok 5 ?_
          rw [show ((gRes 75).drop 43).take 5 = [.iload 10, .iload 5, .iload 4, .isub, .if_icmp .gt 90] from rfl]
          simp only [vs_isub, vs_if_icmp, vs_iload4, vs_iload5, vs_iload10, vs_nil, gv_0, gv_1, gv_2, gv_3, pv_0, pv_1, va_rf_s, Nat.reduceDiv, Nat.reduceMod, Nat.reduceAdd, Nat.reduceMul, Int.reduceToNat, true_and, and_true, and_self, cP_eq, cP_ne, cP_lt, cP_ge, cP_gt, cP_le, eL_i, eL_l, eL_r, eL_n, Option.toList_none, Option.toList_some, List.nil_append, List.cons_append, iI_sub]
          rw [iI_lt (by constructor <;> omega) (by constructor <;> omega)]
          refine ⟨fun c => absurd c (by omega), fun _ => ?_⟩
          have nb : low ≤ nmE mi low high i ∧ nmE mi low high i ≤ high := by
            unfold nmE
            split <;> omega
          have p57 : PW (d + 2) 75 57 [some (.ref r), some (.ref a), some (.ref b), some (.int mi), some (.int (iI low)), some (.int (iI high)), some (.long (lI (psE mi low high Wa i))), none, some (.long (lI (psE mi low high Wb i))), none, some (.int (iI i)), o11] [.int (iI (nmE mi low high i))] g9 Q := by
            refine vs_ok 6 ?_
            rw [show ((gRes 75).drop 57).take 6 = [.istore 11, .aload 0, .iload 11, .aload 1, .iload 11, .invokevirtual 66] from rfl]
            simp only [vs_iv, vs_aload0, vs_aload1, vs_iload11, vs_istore11n, vs_istore11i, vs_istore11r, vs_istore11l, vs_nil, gv_0, gv_1, gv_2, gv_3, pv_0, pv_1, va_rf_s, Nat.reduceDiv, Nat.reduceMod, Nat.reduceAdd, Nat.reduceMul, Int.reduceToNat, true_and, and_true, and_self, cP_eq, cP_ne, cP_lt, cP_ge, cP_gt, cP_le, eL_i, eL_l, eL_r, eL_n, Option.toList_none, Option.toList_some, List.nil_append, List.cons_append]
            refine PW.iv rfl rfl rfl va9.1.1 va9.1.2.1 (le_b rfl) (le_b rfl) ?_
            refine t_atV va9 ⟨by omega, by omega⟩ ⟨rfl, ⟨rfl, rfl⟩, ?_⟩
            refine vs_ok 4 ?_
            rw [show ((gRes 75).drop 63).take 4 = [.lload 8, .aload 2, .iload 11, .invokevirtual 66] from rfl]
            simp only [vs_iv, vs_aload2, vs_lload8, vs_iload11, vs_nil, gv_0, gv_1, gv_2, gv_3, pv_0, pv_1, va_rf_s, Nat.reduceDiv, Nat.reduceMod, Nat.reduceAdd, Nat.reduceMul, Int.reduceToNat, true_and, and_true, and_self, cP_eq, cP_ne, cP_lt, cP_ge, cP_gt, cP_le, eL_i, eL_l, eL_r, eL_n, Option.toList_none, Option.toList_some, List.nil_append, List.cons_append]
            refine PW.iv rfl rfl rfl vb9.1.1 vb9.1.2.1 (le_b rfl) (le_b rfl) ?_
            refine t_atV vb9 ⟨by omega, by omega⟩ ⟨rfl, ⟨rfl, rfl⟩, ?_⟩
            refine vs_ok 6 ?_
            rw [show ((gRes 75).drop 67).take 6 = [.ladd, .lmul, .lload 6, .aload 2, .iload 11, .invokevirtual 66] from rfl]
            simp only [vs_ladd, vs_lmul, vs_iv, vs_aload2, vs_lload6, vs_iload11, vs_nil, gv_0, gv_1, gv_2, gv_3, pv_0, pv_1, va_rf_s, Nat.reduceDiv, Nat.reduceMod, Nat.reduceAdd, Nat.reduceMul, Int.reduceToNat, true_and, and_true, and_self, cP_eq, cP_ne, cP_lt, cP_ge, cP_gt, cP_le, eL_i, eL_l, eL_r, eL_n, Option.toList_none, Option.toList_some, List.nil_append, List.cons_append, lI_add, lI_mul]
            refine PW.iv rfl rfl rfl vb9.1.1 vb9.1.2.1 (le_b rfl) (le_b rfl) ?_
            refine t_atV vb9 ⟨by omega, by omega⟩ ⟨rfl, ⟨rfl, rfl⟩, ?_⟩
            refine vs_ok 3 ?_
            rw [show ((gRes 75).drop 73).take 3 = [.lmul, .ladd, .invokevirtual 67] from rfl]
            simp only [vs_ladd, vs_lmul, vs_iv, vs_nil, gv_0, gv_1, gv_2, gv_3, pv_0, pv_1, va_rf_s, Nat.reduceDiv, Nat.reduceMod, Nat.reduceAdd, Nat.reduceMul, Int.reduceToNat, true_and, and_true, and_self, cP_eq, cP_ne, cP_lt, cP_ge, cP_gt, cP_le, eL_i, eL_l, eL_r, eL_n, Option.toList_none, Option.toList_some, List.nil_append, List.cons_append, lI_add, lI_mul]
            refine PW.iv rfl rfl rfl g19.1 g19.2.1 (le_b rfl) (le_b rfl) ?_
            refine t_put g19 ⟨by omega, by omega⟩ fun g8 f8 w8 => ⟨rfl, ⟨f8.2.2.1, rfl⟩, ?_⟩
            have va8 := va9.keep f8 (by omega) (by omega)
            have vb8 := vb9.keep f8 (by omega) (by omega)
            refine vs_ok 4 ?_
            rw [show ((gRes 75).drop 76).take 4 = [.lload 6, .aload 1, .iload 11, .invokevirtual 66] from rfl]
            simp only [vs_iv, vs_aload1, vs_lload6, vs_iload11, vs_nil, gv_0, gv_1, gv_2, gv_3, pv_0, pv_1, va_rf_s, Nat.reduceDiv, Nat.reduceMod, Nat.reduceAdd, Nat.reduceMul, Int.reduceToNat, true_and, and_true, and_self, cP_eq, cP_ne, cP_lt, cP_ge, cP_gt, cP_le, eL_i, eL_l, eL_r, eL_n, Option.toList_none, Option.toList_some, List.nil_append, List.cons_append]
            refine PW.iv rfl rfl rfl va8.1.1 va8.1.2.1 (le_b rfl) (le_b rfl) ?_
            refine t_atV va8 ⟨by omega, by omega⟩ ⟨rfl, ⟨rfl, rfl⟩, ?_⟩
            refine vs_ok 6 ?_
            rw [show ((gRes 75).drop 80).take 6 = [.ladd, .lstore 6, .lload 8, .aload 2, .iload 11, .invokevirtual 66] from rfl]
            simp only [vs_ladd, vs_iv, vs_aload2, vs_lstore6n, vs_lstore6i, vs_lstore6r, vs_lstore6l, vs_lload8, vs_iload11, vs_nil, gv_0, gv_1, gv_2, gv_3, pv_0, pv_1, va_rf_s, Nat.reduceDiv, Nat.reduceMod, Nat.reduceAdd, Nat.reduceMul, Int.reduceToNat, true_and, and_true, and_self, cP_eq, cP_ne, cP_lt, cP_ge, cP_gt, cP_le, eL_i, eL_l, eL_r, eL_n, Option.toList_none, Option.toList_some, List.nil_append, List.cons_append, lI_add]
            refine PW.iv rfl rfl rfl vb8.1.1 vb8.1.2.1 (le_b rfl) (le_b rfl) ?_
            refine t_atV vb8 ⟨by omega, by omega⟩ ⟨rfl, ⟨rfl, rfl⟩, ?_⟩
            refine vs_ok 4 ?_
            rw [show ((gRes 75).drop 86).take 4 = [.ladd, .lstore 8, .iinc 10 1, .goto 43] from rfl]
            simp only [vs_ladd, vs_goto, vs_lstore8n, vs_lstore8i, vs_lstore8r, vs_lstore8l, vs_iinc10n, vs_iinc10i, vs_iinc10r, vs_iinc10l, vs_nil, gv_0, gv_1, gv_2, gv_3, pv_0, pv_1, va_rf_s, Nat.reduceDiv, Nat.reduceMod, Nat.reduceAdd, Nat.reduceMul, Int.reduceToNat, true_and, and_true, and_self, cP_eq, cP_ne, cP_lt, cP_ge, cP_gt, cP_le, eL_i, eL_l, eL_r, eL_n, Option.toList_none, Option.toList_some, List.nil_append, List.cons_append, lI_add, iI_add]
            rw [← psE_s hi1, ← psE_s hi1]
            refine ih (i + 1) _ g8 (by omega) (by omega) (by omega) (hf.tr f8) fun m => ?_
            rw [w8, hw]
            by_cases hm : m = nmE mi low high i
            · have ei : idE mi low high m = i := by
                rw [hm]
                unfold idE nmE
                split <;> omega
              rw [if_pos ⟨hm, by omega, by omega⟩, ei, if_pos ⟨by omega, by omega, by omega⟩]
              rfl
            · have ei : idE mi low high m ≠ i := by
                intro z
                apply hm
                unfold idE at z
                unfold nmE
                split at z <;> rename_i c0
                · rw [if_pos c0]
                  omega
                · rw [if_neg c0]
                  omega
              rw [if_neg (fun z => hm z.1)]
              refine congrArg lI ?_
              by_cases c : low ≤ m ∧ m ≤ high ∧ idE mi low high m < i
              · rw [if_pos c, if_pos ⟨c.1, c.2.1, by omega⟩]
              · rw [if_neg c, if_neg (by omega)]
          refine vs_ok 2 ?_
          rw [show ((gRes 75).drop 48).take 2 = [.iload 3, .ifCond .eq 54] from rfl]
          simp only [vs_ifCond, vs_iload3, vs_nil, gv_0, gv_1, gv_2, gv_3, pv_0, pv_1, va_rf_s, Nat.reduceDiv, Nat.reduceMod, Nat.reduceAdd, Nat.reduceMul, Int.reduceToNat, true_and, and_true, and_self, cP_eq, cP_ne, cP_lt, cP_ge, cP_gt, cP_le, eL_i, eL_l, eL_r, eL_n, Option.toList_none, Option.toList_some, List.nil_append, List.cons_append]
          refine ⟨fun c => ?_, fun c => ?_⟩
          · refine vs_ok 3 ?_
            rw [show ((gRes 75).drop 54).take 3 = [.iload 5, .iload 10, .isub] from rfl]
            simp only [vs_isub, vs_iload5, vs_iload10, vs_nil, gv_0, gv_1, gv_2, gv_3, pv_0, pv_1, va_rf_s, Nat.reduceDiv, Nat.reduceMod, Nat.reduceAdd, Nat.reduceMul, Int.reduceToNat, true_and, and_true, and_self, cP_eq, cP_ne, cP_lt, cP_ge, cP_gt, cP_le, eL_i, eL_l, eL_r, eL_n, Option.toList_none, Option.toList_some, List.nil_append, List.cons_append, iI_sub]
            rw [show high - i = nmE mi low high i from (if_pos c).symm]
            exact p57
          · refine vs_ok 4 ?_
            rw [show ((gRes 75).drop 50).take 4 = [.iload 4, .iload 10, .iadd, .goto 57] from rfl]
            simp only [vs_iadd, vs_goto, vs_iload4, vs_iload10, vs_nil, gv_0, gv_1, gv_2, gv_3, pv_0, pv_1, va_rf_s, Nat.reduceDiv, Nat.reduceMod, Nat.reduceAdd, Nat.reduceMul, Int.reduceToNat, true_and, and_true, and_self, cP_eq, cP_ne, cP_lt, cP_ge, cP_gt, cP_le, eL_i, eL_l, eL_r, eL_n, Option.toList_none, Option.toList_some, List.nil_append, List.cons_append, iI_add]
            rw [show low + i = nmE mi low high i from (if_neg c).symm]
            exact p57
      refine loop _ 0 none g rfl (by omega) (by omega) fr.rf fun m => ?_
      rw [g5, if_neg (by
        intro z
        have := z.2.2
        unfold idE at this
        split at this <;> omega)]
      rfl
    refine vs_ok 2 ?_
    rw [show ((gRes 75).drop 22).take 2 = [.iload 3, .ifCond .eq 26] from rfl]
    simp only [vs_ifCond, vs_iload3, vs_nil, gv_0, gv_1, gv_2, gv_3, pv_0, pv_1, va_rf_s, Nat.reduceDiv, Nat.reduceMod, Nat.reduceAdd, Nat.reduceMul, Int.reduceToNat, true_and, and_true, and_self, cP_eq, cP_ne, cP_lt, cP_ge, cP_gt, cP_le, eL_i, eL_l, eL_r, eL_n, Option.toList_none, Option.toList_some, List.nil_append, List.cons_append]
    refine ⟨fun c => ?_, fun c => ?_⟩
    · refine vs_ok 5 ?_
      rw [show ((gRes 75).drop 26).take 5 = [.aload 1, .getfield 6030, .aload 2, .getfield 6030, .invokedynamic 3] from rfl]
      simp only [vs_getfield, vs_aload1, vs_aload2, vs_nil, gv_0, gv_1, gv_2, gv_3, pv_0, pv_1, va_rf_s, vs_abs, vs_max, vs_min, vs_oinit, Nat.reduceDiv, Nat.reduceMod, Nat.reduceAdd, Nat.reduceMul, Int.reduceToNat, true_and, and_true, and_self, cP_eq, cP_ne, cP_lt, cP_ge, cP_gt, cP_le, eL_i, eL_l, eL_r, eL_n, Option.toList_none, Option.toList_some, List.nil_append, List.cons_append, hv.1.1, hv.1.2.1, ho.1.1, ho.1.2.1, hv.2.2.1, ho.2.2.1]
      rw [imin (by constructor <;> omega) (by constructor <;> omega)]
      exact ⟨le_b rfl, p31 _ (by rw [if_pos c])⟩
    · refine vs_ok 2 ?_
      rw [show ((gRes 75).drop 24).take 2 = [.iload 5, .goto 31] from rfl]
      simp only [vs_goto, vs_iload5, vs_nil, gv_0, gv_1, gv_2, gv_3, pv_0, pv_1, va_rf_s, Nat.reduceDiv, Nat.reduceMod, Nat.reduceAdd, Nat.reduceMul, Int.reduceToNat, true_and, and_true, and_self, cP_eq, cP_ne, cP_lt, cP_ge, cP_gt, cP_le, eL_i, eL_l, eL_r, eL_n, Option.toList_none, Option.toList_some, List.nil_append, List.cons_append]
      exact p31 _ (by rw [if_neg c])
  refine vs_ok 3 ?_
  rw [show ((gRes 75).drop 12).take 3 = [.aload 0, .iload 3, .ifCond .eq 21] from rfl]
  simp only [vs_ifCond, vs_aload0, vs_iload3, vs_nil, gv_0, gv_1, gv_2, gv_3, pv_0, pv_1, va_rf_s, Nat.reduceDiv, Nat.reduceMod, Nat.reduceAdd, Nat.reduceMul, Int.reduceToNat, true_and, and_true, and_self, cP_eq, cP_ne, cP_lt, cP_ge, cP_gt, cP_le, eL_i, eL_l, eL_r, eL_n, Option.toList_none, Option.toList_some, List.nil_append, List.cons_append]
  refine ⟨fun c => ?_, fun c => ?_⟩
  · refine vs_ok 1 ?_
    rw [show ((gRes 75).drop 21).take 1 = [.iload 4] from rfl]
    simp only [vs_iload4, vs_nil, gv_0, gv_1, gv_2, gv_3, pv_0, pv_1, va_rf_s, Nat.reduceDiv, Nat.reduceMod, Nat.reduceAdd, Nat.reduceMul, Int.reduceToNat, true_and, and_true, and_self, cP_eq, cP_ne, cP_lt, cP_ge, cP_gt, cP_le, eL_i, eL_l, eL_r, eL_n, Option.toList_none, Option.toList_some, List.nil_append, List.cons_append]
    exact p22 _ (by rw [if_pos c])
  · refine vs_ok 6 ?_
    rw [show ((gRes 75).drop 15).take 6 = [.aload 1, .getfield 6020, .aload 2, .getfield 6020, .invokedynamic 2, .goto 22] from rfl]
    simp only [vs_goto, vs_getfield, vs_aload1, vs_aload2, vs_nil, gv_0, gv_1, gv_2, gv_3, pv_0, pv_1, va_rf_s, vs_abs, vs_max, vs_min, vs_oinit, Nat.reduceDiv, Nat.reduceMod, Nat.reduceAdd, Nat.reduceMul, Int.reduceToNat, true_and, and_true, and_self, cP_eq, cP_ne, cP_lt, cP_ge, cP_gt, cP_le, eL_i, eL_l, eL_r, eL_n, Option.toList_none, Option.toList_some, List.nil_append, List.cons_append, hv.1.1, hv.1.2.1, ho.1.1, ho.1.2.1, hv.2.1, ho.2.1]
    rw [imax (by constructor <;> omega) (by constructor <;> omega)]
    exact ⟨le_b rfl, p22 _ (by rw [if_neg c])⟩
