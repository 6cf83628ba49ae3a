/-! constructors of Net, Game, Pairs, WordCount -/
theorem objA0 {h : Hp} {x y : Nat} (h1 : zK h x = y) (h2 : zN h = x + 1) : objA h x y [] := ⟨h1, by show x + 0 < zN h; omega, fun i p hp => by simp at hp⟩
theorem t_Net_init {d : Nat} {h : Hp} {x : Nat} {Q : Nat → Option Value → Hp → Prop} (h1 : zK h x = 3) (h2 : zN h = x + 1) (h3 : x + 4 ≤ zSC)
    (hq : ∀ h', gw (fun q => q = x) 3 36 h h' → zI h' x = zI h x → objA h' x 3 [(14, 12), (14, 12), (14, 12)] → zN h' = x + 4 → Q 0 none h') : PR d m_Net_init [.ref x] h Q := by
  show PW d 33 0 [some (.ref x)] [] h Q
  refine vs_ok 2 ?_
  rw [show ((gRes 33).drop 0).take 2 = [.aload 0, .invokedynamic 4] from rfl]
  simp only [vs_aload0, vs_nil, gv_0, gv_1, gv_2, gv_3, pv_0, pv_1, va_rf_s, vs_abs, vs_max, vs_min, vs_oinit, Nat.reduceDiv, Nat.reduceMod, Nat.reduceAdd, Nat.reduceMul, Int.reduceToNat, true_and, and_true, and_self, cP_eq, cP_ne, cP_lt, cP_ge, cP_gt, cP_le, eL_i, eL_l, eL_r, eL_n, Option.toList_none, Option.toList_some, List.nil_append, List.cons_append]
  refine ⟨le_b rfl, ?_⟩
  refine PW.arn rfl rfl (by decide) (objA0 h1 h2) h2 (by rw [h2]; show x + 1 + 0 < zSC; omega) (by decide) (by decide) (gw.of_fr fr.rf) rfl (by omega) rfl fun g0 w0 z0 o0 n0 => ?_
  refine PW.arn rfl rfl (by decide) (o0) n0 (by rw [n0]; show x + 1 + 1 < zSC; omega) (by decide) (by decide) w0 z0 (by omega) rfl fun g1 w1 z1 o1 n1 => ?_
  refine PW.arn rfl rfl (by decide) (o1) n1 (by rw [n1]; show x + 1 + 2 < zSC; omega) (by decide) (by decide) w1 z1 (by omega) rfl fun g2 w2 z2 o2 n2 => ?_
  refine vs_ok 1 ?_
  rw [show ((gRes 33).drop 14).take 1 = [.return_] from rfl]
  simp only [vs_return_, vs_nil, gv_0, gv_1, gv_2, gv_3, pv_0, pv_1, va_rf_s, Nat.reduceDiv, Nat.reduceMod, Nat.reduceAdd, Nat.reduceMul, Int.reduceToNat, true_and, and_true, and_self, cP_eq, cP_ne, cP_lt, cP_ge, cP_gt, cP_le, eL_i, eL_l, eL_r, eL_n, Option.toList_none, Option.toList_some, List.nil_append, List.cons_append]
  exact ⟨by decide, hq _ w2 z2 o2 n2⟩
theorem t_Game_init {d : Nat} {h : Hp} {x : Nat} {Q : Nat → Option Value → Hp → Prop} (h1 : zK h x = 2) (h2 : zN h = x + 1) (h3 : x + 5 ≤ zSC)
    (hq : ∀ h', gw (fun q => q = x) 4 75 h h' → zI h' x = zI h x → objA h' x 2 [(14, 7), (14, 49), (15, 7), (14, 12)] → zN h' = x + 5 → Q 0 none h') : PR d m_Game_init [.ref x] h Q := by
  show PW d 24 0 [some (.ref x)] [] h Q
  refine vs_ok 2 ?_
  rw [show ((gRes 24).drop 0).take 2 = [.aload 0, .invokedynamic 4] from rfl]
  simp only [vs_aload0, vs_nil, gv_0, gv_1, gv_2, gv_3, pv_0, pv_1, va_rf_s, vs_abs, vs_max, vs_min, vs_oinit, Nat.reduceDiv, Nat.reduceMod, Nat.reduceAdd, Nat.reduceMul, Int.reduceToNat, true_and, and_true, and_self, cP_eq, cP_ne, cP_lt, cP_ge, cP_gt, cP_le, eL_i, eL_l, eL_r, eL_n, Option.toList_none, Option.toList_some, List.nil_append, List.cons_append]
  refine ⟨le_b rfl, ?_⟩
  refine PW.arn rfl rfl (by decide) (objA0 h1 h2) h2 (by rw [h2]; show x + 1 + 0 < zSC; omega) (by decide) (by decide) (gw.of_fr fr.rf) rfl (by omega) rfl fun g0 w0 z0 o0 n0 => ?_
  refine PW.arn rfl rfl (by decide) (o0) n0 (by rw [n0]; show x + 1 + 1 < zSC; omega) (by decide) (by decide) w0 z0 (by omega) rfl fun g1 w1 z1 o1 n1 => ?_
  refine PW.arn rfl rfl (by decide) (o1) n1 (by rw [n1]; show x + 1 + 2 < zSC; omega) (by decide) (by decide) w1 z1 (by omega) rfl fun g2 w2 z2 o2 n2 => ?_
  refine PW.arn rfl rfl (by decide) (o2) n2 (by rw [n2]; show x + 1 + 3 < zSC; omega) (by decide) (by decide) w2 z2 (by omega) rfl fun g3 w3 z3 o3 n3 => ?_
  refine vs_ok 1 ?_
  rw [show ((gRes 24).drop 18).take 1 = [.return_] from rfl]
  simp only [vs_return_, vs_nil, gv_0, gv_1, gv_2, gv_3, pv_0, pv_1, va_rf_s, Nat.reduceDiv, Nat.reduceMod, Nat.reduceAdd, Nat.reduceMul, Int.reduceToNat, true_and, and_true, and_self, cP_eq, cP_ne, cP_lt, cP_ge, cP_gt, cP_le, eL_i, eL_l, eL_r, eL_n, Option.toList_none, Option.toList_some, List.nil_append, List.cons_append]
  exact ⟨by decide, hq _ w3 z3 o3 n3⟩
theorem t_Pairs_init {d : Nat} {h : Hp} {x : Nat} {Q : Nat → Option Value → Hp → Prop} (h1 : zK h x = 4) (h2 : zN h = x + 1) (h3 : x + 4 ≤ zSC)
    (hq : ∀ h', gw (fun q => q = x) 3 6700 h h' → zI h' x = zI h x → objA h' x 4 [(14, 6500), (14, 100), (14, 100)] → zN h' = x + 4 → Q 0 none h') : PR d m_Pairs_init [.ref x] h Q := by
  show PW d 48 0 [some (.ref x)] [] h Q
  refine vs_ok 2 ?_
  rw [show ((gRes 48).drop 0).take 2 = [.aload 0, .invokedynamic 4] from rfl]
  simp only [vs_aload0, vs_nil, gv_0, gv_1, gv_2, gv_3, pv_0, pv_1, va_rf_s, vs_abs, vs_max, vs_min, vs_oinit, Nat.reduceDiv, Nat.reduceMod, Nat.reduceAdd, Nat.reduceMul, Int.reduceToNat, true_and, and_true, and_self, cP_eq, cP_ne, cP_lt, cP_ge, cP_gt, cP_le, eL_i, eL_l, eL_r, eL_n, Option.toList_none, Option.toList_some, List.nil_append, List.cons_append]
  refine ⟨le_b rfl, ?_⟩
  refine PW.arn rfl rfl (by decide) (objA0 h1 h2) h2 (by rw [h2]; show x + 1 + 0 < zSC; omega) (by decide) (by decide) (gw.of_fr fr.rf) rfl (by omega) rfl fun g0 w0 z0 o0 n0 => ?_
  refine PW.arn rfl rfl (by decide) (o0) n0 (by rw [n0]; show x + 1 + 1 < zSC; omega) (by decide) (by decide) w0 z0 (by omega) rfl fun g1 w1 z1 o1 n1 => ?_
  refine PW.arn rfl rfl (by decide) (o1) n1 (by rw [n1]; show x + 1 + 2 < zSC; omega) (by decide) (by decide) w1 z1 (by omega) rfl fun g2 w2 z2 o2 n2 => ?_
  refine vs_ok 1 ?_
  rw [show ((gRes 48).drop 14).take 1 = [.return_] from rfl]
  simp only [vs_return_, vs_nil, gv_0, gv_1, gv_2, gv_3, pv_0, pv_1, va_rf_s, Nat.reduceDiv, Nat.reduceMod, Nat.reduceAdd, Nat.reduceMul, Int.reduceToNat, true_and, and_true, and_self, cP_eq, cP_ne, cP_lt, cP_ge, cP_gt, cP_le, eL_i, eL_l, eL_r, eL_n, Option.toList_none, Option.toList_some, List.nil_append, List.cons_append]
  exact ⟨by decide, hq _ w2 z2 o2 n2⟩
theorem t_WordCount_init {d : Nat} {h : Hp} {x : Nat} {Q : Nat → Option Value → Hp → Prop} (h1 : zK h x = 9) (h2 : zN h = x + 1) (h3 : x + 6 ≤ zSC)
    (hq : ∀ h', gw (fun q => q = x) 5 356 h h' → zI h' x = zI h x → objA h' x 9 [(14, 4), (14, 16), (14, 64), (14, 256), (14, 16)] → zN h' = x + 6 → Q 0 none h') : PR d m_WordCount_init [.ref x] h Q := by
  show PW d 112 0 [some (.ref x)] [] h Q
  refine vs_ok 2 ?_
  rw [show ((gRes 112).drop 0).take 2 = [.aload 0, .invokedynamic 4] from rfl]
  simp only [vs_aload0, vs_nil, gv_0, gv_1, gv_2, gv_3, pv_0, pv_1, va_rf_s, vs_abs, vs_max, vs_min, vs_oinit, Nat.reduceDiv, Nat.reduceMod, Nat.reduceAdd, Nat.reduceMul, Int.reduceToNat, true_and, and_true, and_self, cP_eq, cP_ne, cP_lt, cP_ge, cP_gt, cP_le, eL_i, eL_l, eL_r, eL_n, Option.toList_none, Option.toList_some, List.nil_append, List.cons_append]
  refine ⟨le_b rfl, ?_⟩
  refine PW.arn rfl rfl (by decide) (objA0 h1 h2) h2 (by rw [h2]; show x + 1 + 0 < zSC; omega) (by decide) (by decide) (gw.of_fr fr.rf) rfl (by omega) rfl fun g0 w0 z0 o0 n0 => ?_
  refine PW.arn rfl rfl (by decide) (o0) n0 (by rw [n0]; show x + 1 + 1 < zSC; omega) (by decide) (by decide) w0 z0 (by omega) rfl fun g1 w1 z1 o1 n1 => ?_
  refine PW.arn rfl rfl (by decide) (o1) n1 (by rw [n1]; show x + 1 + 2 < zSC; omega) (by decide) (by decide) w1 z1 (by omega) rfl fun g2 w2 z2 o2 n2 => ?_
  refine PW.arn rfl rfl (by decide) (o2) n2 (by rw [n2]; show x + 1 + 3 < zSC; omega) (by decide) (by decide) w2 z2 (by omega) rfl fun g3 w3 z3 o3 n3 => ?_
  refine PW.arn rfl rfl (by decide) (o3) n3 (by rw [n3]; show x + 1 + 4 < zSC; omega) (by decide) (by decide) w3 z3 (by omega) rfl fun g4 w4 z4 o4 n4 => ?_
  refine vs_ok 1 ?_
  rw [show ((gRes 112).drop 22).take 1 = [.return_] from rfl]
  simp only [vs_return_, vs_nil, gv_0, gv_1, gv_2, gv_3, pv_0, pv_1, va_rf_s, Nat.reduceDiv, Nat.reduceMod, Nat.reduceAdd, Nat.reduceMul, Int.reduceToNat, true_and, and_true, and_self, cP_eq, cP_ne, cP_lt, cP_ge, cP_gt, cP_le, eL_i, eL_l, eL_r, eL_n, Option.toList_none, Option.toList_some, List.nil_append, List.cons_append]
  exact ⟨by decide, hq _ w4 z4 o4 n4⟩
