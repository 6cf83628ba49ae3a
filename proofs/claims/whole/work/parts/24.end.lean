/-! Row: takeMore, takeEnd -/
theorem t_takeMore {d : Nat} {h : Hp} {r rc a ra b rb : Nat} {l0 h0 t0 la ha ta lb hb tb : Int} {W0 Wa Wb : Int → Int} {Q : Nat → Option Value → Hp → Prop} (hr : rowV h r rc l0 h0 t0 W0) (hv : rowV h a ra la ha ta Wa) (ho : rowV h b rb lb hb tb Wb) (hap : apt r a) (hap2 : apt r b) (hrc1 : 1 ≤ rc)
    (hg : 0 ≤ abV Wa Wb ∧ abV Wa Wb ≤ ta * tb) (ht : ta * tb ≤ 1000000000000000000) (hp : 0 < ta * tb)
    (hq : ∀ h', fr (rS r) h h' → rowV h' r rc (if 0 < ta * tb - abV Wa Wb then 0 else 1) (if 0 < abV Wa Wb then 1 else 0) (ta * tb) (fun m => if m = 1 then abV Wa Wb else if m = 0 then ta * tb - abV Wa Wb else 0) → Q 0 none h') : PR (d + 2) m_Row_takeMore [.ref r, .ref a, .ref b] h Q := by
  have hrc := hr.1.2.2.2.2.2.2.2
  show PW (d + 2) 76 0 [some (.ref r), some (.ref a), some (.ref b), none, none, none, none] [] h Q
  refine vs_ok 3 ?_
  rw [show ((gRes 76).drop 0).take 3 = [.aload 1, .aload 2, .invokevirtual 77] from rfl]
  simp only [vs_iv, vs_aload1, vs_aload2, vs_nil, gv_0, gv_1, gv_2, gv_3, pv_0, pv_1, va_rf_s, Nat.reduceDiv, Nat.reduceMod, Nat.reduceAdd, Nat.reduceMul, Int.reduceToNat, true_and, and_true, and_self, cP_eq, cP_ne, cP_lt, cP_ge, cP_gt, cP_le, eL_i, eL_l, eL_r, eL_n, Option.toList_none, Option.toList_some, List.nil_append, List.cons_append]
  refine PW.iv rfl rfl rfl hv.1.1 hv.1.2.1 (le_b rfl) (le_b rfl) ?_
  refine t_above hv ho ⟨rfl, ⟨rfl, rfl⟩, ?_⟩
  refine vs_ok 14 ?_
  rw [show ((gRes 76).drop 3).take 14 = [.lstore 3, .aload 1, .getfield 6041, .aload 2, .getfield 6041, .lmul, .lload 3, .lsub, .lstore 5, .aload 0, .lload 5, .jsr_w 0, .lcmp, .ifCond .le 19] from rfl]
  simp only [vs_lsub, vs_lmul, vs_lcmp, vs_jsr_w, vs_ifCond, vs_getfield, vs_aload0, vs_aload1, vs_aload2, vs_lload3, vs_lstore3n, vs_lstore3i, vs_lstore3r, vs_lstore3l, vs_lload5, vs_lstore5n, vs_lstore5i, vs_lstore5r, vs_lstore5l, vs_nil, gv_0, gv_1, gv_2, gv_3, pv_0, pv_1, va_rf_s, Nat.reduceDiv, Nat.reduceMod, Nat.reduceAdd, Nat.reduceMul, Int.reduceToNat, true_and, and_true, and_self, cP_eq, cP_ne, cP_lt, cP_ge, cP_gt, cP_le, eL_i, eL_l, eL_r, eL_n, Option.toList_none, Option.toList_some, List.nil_append, List.cons_append, hv.1.1, hv.1.2.1, ho.1.1, ho.1.2.1, hv.2.2.2.1, ho.2.2.2.1, lI_mul, lI_sub]
  generalize hgg : abV Wa Wb = gr at hg hq
  have c0 : ∀ x : Int, i64 x → (lg_cmp (lI x) (Int64.ofInt 0) ≤ 0 ↔ x ≤ 0) := fun x hx => by
    unfold lg_cmp
    have e1 : lI x > Int64.ofInt 0 ↔ 0 < x := lI_lt (by constructor <;> omega) hx
    by_cases c1 : 0 < x
    · rw [if_pos (e1.mpr c1)]
      exact ⟨fun z => absurd z (by decide), fun z => by omega⟩
    · rw [if_neg (fun z => c1 (e1.mp z))]
      split
      · exact ⟨fun _ => by omega, fun _ => by decide⟩
      · exact ⟨fun _ => by omega, fun _ => by decide⟩
  rw [c0 _ (by constructor <;> omega)]
  have p20 : ∀ nl : Int, nl = (if 0 < ta * tb - gr then 0 else 1) → PW (d + 2) 76 20 [some (.ref r), some (.ref a), some (.ref b), some (.long (lI gr)), none, some (.long (lI (ta * tb - gr))), none] [.int (iI nl), .ref r] h Q := fun nl hnl => by
    have p27 : ∀ nh : Int, nh = (if 0 < gr then 1 else 0) → PW (d + 2) 76 27 [some (.ref r), some (.ref a), some (.ref b), some (.long (lI gr)), none, some (.long (lI (ta * tb - gr))), none] [.int (iI nh), .int (iI nl), .ref r] h Q := fun nh hnh => by
      refine vs_ok 6 ?_
      rw [show ((gRes 76).drop 27).take 6 = [.aload 1, .getfield 6041, .aload 2, .getfield 6041, .lmul, .invokevirtual 68] from rfl]
      simp only [vs_lmul, vs_getfield, vs_iv, vs_aload1, vs_aload2, vs_nil, gv_0, gv_1, gv_2, gv_3, pv_0, pv_1, va_rf_s, Nat.reduceDiv, Nat.reduceMod, Nat.reduceAdd, Nat.reduceMul, Int.reduceToNat, true_and, and_true, and_self, cP_eq, cP_ne, cP_lt, cP_ge, cP_gt, cP_le, eL_i, eL_l, eL_r, eL_n, Option.toList_none, Option.toList_some, List.nil_append, List.cons_append, hv.1.1, hv.1.2.1, ho.1.1, ho.1.2.1, hv.2.2.2.1, ho.2.2.2.1, lI_mul]
      refine PW.iv rfl rfl rfl hr.1.1 hr.1.2.1 (le_b rfl) (le_b rfl) ?_
      refine t_blankV hr fun g f1 g1 g2 g3 g4 g5 => ⟨rfl, ⟨f1.2.2.1, rfl⟩, ?_⟩
      refine vs_ok 4 ?_
      rw [show ((gRes 76).drop 33).take 4 = [.aload 0, .iconst 0, .lload 5, .invokevirtual 67] from rfl]
      simp only [vs_iconst, vs_iv, vs_aload0, vs_lload5, vs_nil, gv_0, gv_1, gv_2, gv_3, pv_0, pv_1, va_rf_s, Nat.reduceDiv, Nat.reduceMod, Nat.reduceAdd, Nat.reduceMul, Int.reduceToNat, true_and, and_true, and_self, cP_eq, cP_ne, cP_lt, cP_ge, cP_gt, cP_le, eL_i, eL_l, eL_r, eL_n, Option.toList_none, Option.toList_some, List.nil_append, List.cons_append]
      refine PW.iv rfl rfl rfl g1.1 g1.2.1 (le_b rfl) (le_b rfl) ?_
      refine t_put g1 ⟨by omega, by omega⟩ fun g6 f6 w6 => ⟨rfl, ⟨f6.2.2.1, rfl⟩, ?_⟩
      have eI := f6.2.2.2.2.2.1 r (by omega)
      have eJ := f6.2.2.2.2.2.2.1 r (by omega)
      have eR := f6.2.2.2.2.2.2.2 r (by omega)
      have g16 := g1.fr f6 (by rw [eI]) (by rw [eR])
      refine vs_ok 4 ?_
      rw [show ((gRes 76).drop 37).take 4 = [.aload 0, .iconst 1, .lload 3, .invokevirtual 67] from rfl]
      simp only [vs_iconst, vs_iv, vs_aload0, vs_lload3, vs_nil, gv_0, gv_1, gv_2, gv_3, pv_0, pv_1, va_rf_s, Nat.reduceDiv, Nat.reduceMod, Nat.reduceAdd, Nat.reduceMul, Int.reduceToNat, true_and, and_true, and_self, cP_eq, cP_ne, cP_lt, cP_ge, cP_gt, cP_le, eL_i, eL_l, eL_r, eL_n, Option.toList_none, Option.toList_some, List.nil_append, List.cons_append]
      refine PW.iv rfl rfl rfl g16.1 g16.2.1 (le_b rfl) (le_b rfl) ?_
      refine t_put g16 ⟨by omega, by omega⟩ fun g7 f7 w7 => ⟨rfl, ⟨f7.2.2.1, rfl⟩, ?_⟩
      have eI7 := f7.2.2.2.2.2.1 r (by omega)
      have eJ7 := f7.2.2.2.2.2.2.1 r (by omega)
      have eR7 := f7.2.2.2.2.2.2.2 r (by omega)
      refine vs_ok 1 ?_
      rw [show ((gRes 76).drop 41).take 1 = [.return_] from rfl]
      simp only [vs_return_, vs_nil, gv_0, gv_1, gv_2, gv_3, pv_0, pv_1, va_rf_s, Nat.reduceDiv, Nat.reduceMod, Nat.reduceAdd, Nat.reduceMul, Int.reduceToNat, true_and, and_true, and_self, cP_eq, cP_ne, cP_lt, cP_ge, cP_gt, cP_le, eL_i, eL_l, eL_r, eL_n, Option.toList_none, Option.toList_some, List.nil_append, List.cons_append]
      refine ⟨by decide, hq g7 (f1.tr ((f6.tr f7).wk fun _ z => Or.inr z)) ⟨g16.fr f7 (by rw [eI7]) (by rw [eR7]), by rw [eI7, eI, g2, hnl], by rw [eI7, eI, g3, hnh], by rw [eJ7, eJ]; exact g4, ⟨?_, ?_, ?_⟩, fun m => ?_, fun m hm => ?_⟩⟩
      · split <;> omega
      · split <;> omega
      · split <;> split <;> omega
      · show _ = lI (if m = 1 then gr else if m = 0 then ta * tb - gr else 0)
        rw [w7, w6, g5]
        by_cases m1 : m = 1
        · rw [if_pos ⟨m1, by omega, by omega⟩, if_pos m1]
        · rw [if_neg (fun z => m1 z.1), if_neg m1]
          by_cases m0 : m = 0
          · rw [if_pos ⟨m0, by omega, by omega⟩, if_pos m0]
          · rw [if_neg (fun z => m0 z.1), if_neg m0]
            rfl
      · show (if m = 1 then gr else if m = 0 then ta * tb - gr else 0) = 0
        by_cases m1 : m = 1
        · rw [if_pos m1]
          by_cases z : 0 < gr
          · exfalso
            apply hm
            rw [if_pos z]
            split <;> omega
          · omega
        · rw [if_neg m1]
          by_cases m0 : m = 0
          · rw [if_pos m0]
            by_cases z : 0 < ta * tb - gr
            · exfalso
              apply hm
              rw [if_pos z]
              split <;> omega
            · omega
          · rw [if_neg m0]
    refine vs_ok 4 ?_
    rw [show ((gRes 76).drop 20).take 4 = [.lload 3, .jsr_w 0, .lcmp, .ifCond .le 26] from rfl]
    simp only [vs_lcmp, vs_jsr_w, vs_ifCond, vs_lload3, vs_nil, gv_0, gv_1, gv_2, gv_3, pv_0, pv_1, va_rf_s, Nat.reduceDiv, Nat.reduceMod, Nat.reduceAdd, Nat.reduceMul, Int.reduceToNat, true_and, and_true, and_self, cP_eq, cP_ne, cP_lt, cP_ge, cP_gt, cP_le, eL_i, eL_l, eL_r, eL_n, Option.toList_none, Option.toList_some, List.nil_append, List.cons_append]
    rw [c0 _ (by constructor <;> omega)]
    refine ⟨fun c => ?_, fun c => ?_⟩
    · refine vs_ok 1 ?_
      rw [show ((gRes 76).drop 26).take 1 = [.iconst 0] from rfl]
      simp only [vs_iconst, vs_nil, gv_0, gv_1, gv_2, gv_3, pv_0, pv_1, va_rf_s, Nat.reduceDiv, Nat.reduceMod, Nat.reduceAdd, Nat.reduceMul, Int.reduceToNat, true_and, and_true, and_self, cP_eq, cP_ne, cP_lt, cP_ge, cP_gt, cP_le, eL_i, eL_l, eL_r, eL_n, Option.toList_none, Option.toList_some, List.nil_append, List.cons_append]
      exact p27 0 (by rw [if_neg (by omega)])
    · refine vs_ok 2 ?_
      rw [show ((gRes 76).drop 24).take 2 = [.iconst 1, .goto 27] from rfl]
      simp only [vs_iconst, vs_goto, vs_nil, gv_0, gv_1, gv_2, gv_3, pv_0, pv_1, va_rf_s, Nat.reduceDiv, Nat.reduceMod, Nat.reduceAdd, Nat.reduceMul, Int.reduceToNat, true_and, and_true, and_self, cP_eq, cP_ne, cP_lt, cP_ge, cP_gt, cP_le, eL_i, eL_l, eL_r, eL_n, Option.toList_none, Option.toList_some, List.nil_append, List.cons_append]
      exact p27 1 (by rw [if_pos (by omega)])
  refine ⟨fun c => ?_, fun c => ?_⟩
  · refine vs_ok 1 ?_
    rw [show ((gRes 76).drop 19).take 1 = [.iconst 1] from rfl]
    simp only [vs_iconst, vs_nil, gv_0, gv_1, gv_2, gv_3, pv_0, pv_1, va_rf_s, Nat.reduceDiv, Nat.reduceMod, Nat.reduceAdd, Nat.reduceMul, Int.reduceToNat, true_and, and_true, and_self, cP_eq, cP_ne, cP_lt, cP_ge, cP_gt, cP_le, eL_i, eL_l, eL_r, eL_n, Option.toList_none, Option.toList_some, List.nil_append, List.cons_append]
    exact p20 1 (by rw [if_neg (by omega)])
  · refine vs_ok 2 ?_
    rw [show ((gRes 76).drop 17).take 2 = [.iconst 0, .goto 20] from rfl]
    simp only [vs_iconst, vs_goto, vs_nil, gv_0, gv_1, gv_2, gv_3, pv_0, pv_1, va_rf_s, Nat.reduceDiv, Nat.reduceMod, Nat.reduceAdd, Nat.reduceMul, Int.reduceToNat, true_and, and_true, and_self, cP_eq, cP_ne, cP_lt, cP_ge, cP_gt, cP_le, eL_i, eL_l, eL_r, eL_n, Option.toList_none, Option.toList_some, List.nil_append, List.cons_append]
    exact p20 0 (by rw [if_pos (by omega)])
