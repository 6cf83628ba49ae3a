/-! the Model's reduce: one part more -/
/-- slot s holds v, where nothing is TOO MUCH -/
def slO (h : Hp) (m s : Nat) (v : Option RowVal) (tm : Bool) : Prop := tm = false → ∃ u, v = some u ∧ slV h m s u ∧ gV u
theorem slO.of {h g : Hp} {m s : Nat} {v : Option RowVal} {tm : Bool} (x : slO h m s v tm) (k : ∀ W t, slW h m s W t → slW g m s W t) : slO g m s v tm := fun z => by
  obtain ⟨u, e, a, b⟩ := x z
  exact ⟨u, e, k _ _ a, b⟩
theorem slO.mo {h : Hp} {m s : Nat} {v : Option RowVal} {tm tm' : Bool} (x : slO h m s v tm) (k : tm' = false → tm = false) : slO h m s v tm' := fun z => x (k z)
theorem tm01 (tm : Bool) : (if tm = true then (1 : Int) else 0) = 0 ∨ (if tm = true then (1 : Int) else 0) = 1 := by
  cases tm
  · exact Or.inl rfl
  · exact Or.inr rfl
theorem t_bothG {d : Nat} {h : Hp} {m a b to : Nat} {how : Int} {va vb w : Option RowVal} {tm : Bool} {Q : Nat → Option Value → Hp → Prop} (hm : mO h m) (ha : a < 49 ∧ a ≠ 25) (hb : b < 49 ∧ b ≠ 25) (ht : to < 49 ∧ to ≠ 25) (hh : how = 0 ∨ how = 2 ∨ how = 3 ∨ how = 4) (h7 : zI h m 7 = iI (if tm = true then 1 else 0)) (wa : slO h m a va tm) (wb : slO h m b vb tm)
    (e1 : ∀ x y, va = some x → vb = some y → gV x → gV y → (x.2.2.1 * y.2.2.1 ≤ 1000000000 ∧ poK how x.2.2.2 y.2.2.2) → ∃ z, w = some z ∧ gV z ∧ z.2.2.1 = x.2.2.1 * y.2.2.1 ∧ ∀ v, -200 ≤ v ∧ v ≤ 200 → poW how x.2.2.2 y.2.2.2 401 v = z.2.2.2 v)
    (e0 : ∀ x y, va = some x → vb = some y → gV x → gV y → ¬ (x.2.2.1 * y.2.2.1 ≤ 1000000000 ∧ poK how x.2.2.2 y.2.2.2) → w = none)
    (hq : ∀ g tm', poR (fun s => s = 25 ∨ s = to) h g m → zI g m 7 = iI (if tm' = true then 1 else 0) → tm' = (tm || w.isNone) → slO g m to w tm' → Q 0 none g) : PR (d + 1) m_M_both [.ref m, .int (iI a), .int (iI b), .int (iI how), .int (iI to)] h Q := by
  cases tm with
  | true =>
    have M := hm.k
    have h7 : zI h m 7 = iI 1 := h7
    show PW (d + 1) 194 0 [some (.ref m), some (.int (iI a)), some (.int (iI b)), some (.int (iI how)), some (.int (iI to)), none, none, none] [] h Q
    refine vs_ok 3 ?_
    rw [show ((gRes 194).drop 0).take 3 = [.aload 0, .getfield 12073, .ifCond .ne 15] from rfl]
    simp (disch := omega) only [vs_ifCond, vs_getfield, vs_aload0, vs_nil, gv_0, gv_1, gv_2, gv_3, pv_0, pv_1, va_rf_s, Nat.reduceDiv, Nat.reduceMod, Nat.reduceAdd, Nat.reduceMul, Int.reduceToNat, true_and, and_true, and_self, cP_eq, cP_ne, cP_lt, cP_ge, cP_gt, cP_le, eL_i, eL_l, eL_r, eL_n, Option.toList_none, Option.toList_some, List.nil_append, List.cons_append, kkI, llI, nnI, rrI, jjI, kkJ, llJ, nnJ, rrJ, iiJ, zIIs, zJJs, nEF, nET, and_false, false_and, jmin, jmax, catS_n, catS_i, catS_r, catS_l, Nat.reduceLeDiff, j1eq1, n21, jt0, jt1, Bool.false_eq_true, Classical.not_not, true_or, or_true, false_or, or_false, true_imp_iff, false_imp_iff, not_true_eq_false, not_false_eq_true, jif0, jif1, jifb, ltT, ltF, leT, leF, eqT, eqF, jlt, jle, jeq, jlt0, jle0, jeq0, jge0, jgt0, jinB, jnat, clt, cle, ceq, cgt, cge, lI_add, lI_sub, lI_mul, jadd, jsub, jmul, jneg, jtol, b010, b011, pv_2t, Int.toNat_natCast, Option.some.injEq, exists_eq_left', if_true, if_false, M, h7]
    refine vs_ok 4 ?_
    rw [show ((gRes 194).drop 15).take 4 = [.aload 0, .iconst 1, .putfield 12073, .return_] from rfl]
    simp (disch := omega) only [vs_iconst, vs_putfield, vs_return_, vs_aload0, vs_nil, gv_0, gv_1, gv_2, gv_3, pv_0, pv_1, va_rf_s, Nat.reduceDiv, Nat.reduceMod, Nat.reduceAdd, Nat.reduceMul, Int.reduceToNat, true_and, and_true, and_self, cP_eq, cP_ne, cP_lt, cP_ge, cP_gt, cP_le, eL_i, eL_l, eL_r, eL_n, Option.toList_none, Option.toList_some, List.nil_append, List.cons_append, kkI, llI, nnI, rrI, jjI, kkJ, llJ, nnJ, rrJ, iiJ, zIIs, zJJs, nEF, nET, and_false, false_and, jmin, jmax, catS_n, catS_i, catS_r, catS_l, Nat.reduceLeDiff, j1eq1, n21, jt0, jt1, Bool.false_eq_true, Classical.not_not, true_or, or_true, false_or, or_false, true_imp_iff, false_imp_iff, not_true_eq_false, not_false_eq_true, jif0, jif1, jifb, ltT, ltF, leT, leF, eqT, eqF, jlt, jle, jeq, jlt0, jle0, jeq0, jge0, jgt0, jinB, jnat, clt, cle, ceq, cgt, cge, lI_add, lI_sub, lI_mul, jadd, jsub, jmul, jneg, jtol, b010, b011, pv_2t, Int.toNat_natCast, Option.some.injEq, exists_eq_left', if_true, if_false, M, pv_31, show gRc 194 = 0 from rfl]
    exact hq _ true poR_f (by rw [zI_s, if_pos ⟨rfl, rfl⟩]; rfl) rfl fun z => (by cases z)
  | false =>
    obtain ⟨x, ex, sx, gx⟩ := wa rfl
    obtain ⟨y, ey, sy, gy⟩ := wb rfl
    refine t_M_both hm ha hb ht hh h7 sx sy gx gy (fun z g r g7 gs => ?_) (fun z g r g7 => ?_)
    · obtain ⟨u, e, gu, et, ew⟩ := e1 x y ex ey gx gy z
      refine hq g false r g7 (by rw [e]; rfl) fun _ => ⟨u, e, ⟨fun k hk => ?_, ?_⟩, gu⟩
      · rw [gs.1 k hk, ew _ (by omega)]
      · rw [gs.2, et]
    · have e := e0 x y ex ey gx gy z
      exact hq g true r g7 (by rw [e]; rfl) fun z => (by cases z)
theorem t_bothO {d : Nat} {h : Hp} {m a b to : Nat} {va vb : Option RowVal} {tm : Bool} {Q : Nat → Option Value → Hp → Prop} (hm : mO h m) (ha : a < 49 ∧ a ≠ 25) (hb : b < 49 ∧ b ≠ 25) (ht : to < 49 ∧ to ≠ 25) (h7 : zI h m 7 = iI (if tm = true then 1 else 0)) (wa : slO h m a va tm) (wb : slO h m b vb tm)
    (hq : ∀ g tm', poR (fun s => s = 25 ∨ s = to) h g m → zI g m 7 = iI (if tm' = true then 1 else 0) → tm' = (tm || (jnO 0 va vb).isNone) → slO g m to (jnO 0 va vb) tm' → Q 0 none g) : PR (d + 1) m_M_both [.ref m, .int (iI a), .int (iI b), .int (iI (0 : Int)), .int (iI to)] h Q := by
  refine t_bothG hm ha hb ht (Or.inl rfl) h7 wa wb (fun x y ex ey gx gy z => ?_) (fun x y ex ey gx gy z => ?_) hq
  · rw [ex, ey]
    have ok := (pk_0 gx gy).mp z
    exact ⟨adV 0 x y, if_pos ok, gV_ad gx gy ok, rfl, fun v _ => po_0 gx.spt gy.spt v⟩
  · rw [ex, ey]
    exact if_neg fun y => z ((pk_0 gx gy).mpr y)
theorem t_bothC {d : Nat} {h : Hp} {m a b to : Nat} {w : Int} {va vb : Option RowVal} {tm : Bool} {Q : Nat → Option Value → Hp → Prop} (hw : prW w) (hm : mO h m) (ha : a < 49 ∧ a ≠ 25) (hb : b < 49 ∧ b ≠ 25) (ht : to < 49 ∧ to ≠ 25) (h7 : zI h m 7 = iI (if tm = true then 1 else 0)) (wa : slO h m a va tm) (wb : slO h m b vb tm)
    (hq : ∀ g tm', poR (fun s => s = 25 ∨ s = to) h g m → zI g m 7 = iI (if tm' = true then 1 else 0) → tm' = (tm || (cmO w va vb).isNone) → slO g m to (cmO w va vb) tm' → Q 0 none g) : PR (d + 1) m_M_both [.ref m, .int (iI a), .int (iI b), .int (iI (hwF w)), .int (iI to)] h Q := by
  have h3 : hwF w = 2 ∨ hwF w = 3 ∨ hwF w = 4 := by
    unfold hwF
    rcases hw with c | c | c <;> rw [c]
    · exact Or.inl rfl
    · exact Or.inr (Or.inl rfl)
    · exact Or.inr (Or.inr rfl)
  refine t_bothG hm ha hb ht (Or.inr h3) h7 wa wb (fun x y ex ey gx gy z => ?_) (fun x y ex ey gx gy z => ?_) hq
  · rw [ex, ey]
    have ok := (pk_c h3 gx gy).mp z
    exact ⟨cmV w x y, if_pos ok, gV_cm gx gy ok, cm_t x y, fun v hv => po_c hw gx gy hv⟩
  · rw [ex, ey]
    exact if_neg fun y => z ((pk_c h3 gx gy).mpr y)
theorem t_copyO {d : Nat} {h : Hp} {m a b : Nat} {v : Option RowVal} {tm : Bool} {Q : Nat → Option Value → Hp → Prop} (hm : mO h m) (ha : a < 49) (hb : b < 49) (hab : a ≠ b) (x : slO h m a v tm) (hq : ∀ g, poR (fun s => s = b) h g m → zI g = zI h → slO g m b v tm → Q 0 none g) : PR d m_M_copy [.ref m, .int (iI a), .int (iI b)] h Q := by
  obtain ⟨W0, t0, w0⟩ := slW_any h m a
  refine t_M_copy hm ha hb w0 fun g c v1 => hq g (slC.poR c rfl) c.2.2.2 fun z => ?_
  obtain ⟨u, e, a, b⟩ := x z
  refine ⟨u, e, ⟨fun k hk => ?_, ?_⟩, b⟩
  · rw [v1.1 k hk, ← w0.1 k hk]
    exact a.1 k hk
  · rw [v1.2, ← w0.2]
    exact a.2
/-- thrown k times, where k is not 0 -/
abbrev tmV (k : Nat) (v : Option RowVal) : Option RowVal := if k = 0 then v else rpV k v
theorem rpV_1 (v : Option RowVal) : rpV 1 v = v := by
  cases v <;> rfl
theorem rpV_s {j : Nat} (hj : 1 ≤ j) (v : Option RowVal) : jnO 0 (rpV j v) v = rpV ((j + 1 : Nat) : Int) v := by
  cases v with
  | none => rfl
  | some v =>
    show jnO 0 (rpO v ((j : Int).toNat - 1)) (some v) = rpO v (((j + 1 : Nat) : Int).toNat - 1)
    rw [show (((j + 1 : Nat) : Int).toNat - 1) = ((j : Int).toNat - 1) + 1 by omega]
    show _ = match rpO v ((j : Int).toNat - 1) with
      | some u => if okS 0 u v then some (adV 0 u v) else none
      | none => none
    cases rpO v ((j : Int).toNat - 1) <;> rfl
theorem jnO_n {mi : Int32} {a b : Option RowVal} : (a.isNone || b.isNone || (jnO mi a b).isNone) = (jnO mi a b).isNone := by
  cases a with
  | none => cases b <;> rfl
  | some a =>
    cases b with
    | none => rfl
    | some b => rfl
theorem t_redA {D : Nat} {h : Hp} {m sz n o k : Nat} {B Wd : Nat → Int} {Vn : Nat → RowVal} {s : R4} {tm : Bool} {v : Option RowVal} {l1 l3 : Option Value} {Q : Nat → Option Value → Hp → Prop} (x : suG h m sz n B Wd Vn s tm) (ho : o ≤ 10) (ht : zI h (m + 11) o = iI k) (hk : k ≤ 6) (hv : slO h m 24 v tm)
    (K : ∀ g tm' l3, suC o h g m → (∀ q, q = m + 9 ∨ q = m + 10 ∨ q = m + 12 → zI g q = zI h q) → (∀ s W t, s < 49 → ¬ (24 ≤ s ∧ s ≤ 26) → slW h m s W t → slW g m s W t) → suG g m sz n B Wd Vn s tm' → tm' = (tm || (tmV k v).isNone) → slO g m 24 (tmV k v) tm' → zI g (m + 11) o = iI 0 → PW (D + 2) 211 32 [some (.ref m), l1, some (.int (iI o)), l3] [] g Q) : PW (D + 2) 211 2 [some (.ref m), l1, some (.int (iI o)), l3] [] h Q := by
  have hm := x.m
  have M := hm.k
  have A := hm.times
  by_cases c : k = 0
  · subst c
    refine vs_ok 5 ?_
    rw [show ((gRes 211).drop 2).take 5 = [.aload 0, .getfield 12152, .iload 2, .iaload, .ifCond .le 32] from rfl]
    simp (disch := omega) only [vs_ifCond, vs_getfield, vs_iaload, vs_aload0, vs_iload2, vs_nil, gv_0, gv_1, gv_2, gv_3, pv_0, pv_1, va_rf_s, Nat.reduceDiv, Nat.reduceMod, Nat.reduceAdd, Nat.reduceMul, Int.reduceToNat, true_and, and_true, and_self, cP_eq, cP_ne, cP_lt, cP_ge, cP_gt, cP_le, eL_i, eL_l, eL_r, eL_n, Option.toList_none, Option.toList_some, List.nil_append, List.cons_append, kkI, llI, nnI, rrI, jjI, kkJ, llJ, nnJ, rrJ, iiJ, zIIs, zJJs, nEF, nET, and_false, false_and, jmin, jmax, catS_n, catS_i, catS_r, catS_l, Nat.reduceLeDiff, j1eq1, n21, jt0, jt1, Bool.false_eq_true, Classical.not_not, true_or, or_true, false_or, or_false, true_imp_iff, false_imp_iff, not_true_eq_false, not_false_eq_true, jif0, jif1, jifb, ltT, ltF, leT, leF, eqT, eqF, jlt, jle, jeq, jlt0, jle0, jeq0, jge0, jgt0, jinB, jnat, clt, cle, ceq, cgt, cge, lI_add, lI_sub, lI_mul, jadd, jsub, jmul, jneg, jtol, b010, b011, pv_2t, Int.toNat_natCast, Option.some.injEq, exists_eq_left', if_true, if_false, M, A, ht]
    refine K h tm l3 suC.rf (fun _ _ => rfl) (fun _ _ _ _ _ z => z) x ?_ hv ht
    cases tm with
    | true => rfl
    | false =>
      obtain ⟨u, e, -⟩ := hv rfl
      show false = (false || (if 0 = 0 then v else _).isNone)
      rw [if_pos rfl, e]
      rfl
  · refine vs_ok 5 ?_
    rw [show ((gRes 211).drop 2).take 5 = [.aload 0, .getfield 12152, .iload 2, .iaload, .ifCond .le 32] from rfl]
    simp (disch := omega) only [vs_ifCond, vs_getfield, vs_iaload, vs_aload0, vs_iload2, vs_nil, gv_0, gv_1, gv_2, gv_3, pv_0, pv_1, va_rf_s, Nat.reduceDiv, Nat.reduceMod, Nat.reduceAdd, Nat.reduceMul, Int.reduceToNat, true_and, and_true, and_self, cP_eq, cP_ne, cP_lt, cP_ge, cP_gt, cP_le, eL_i, eL_l, eL_r, eL_n, Option.toList_none, Option.toList_some, List.nil_append, List.cons_append, kkI, llI, nnI, rrI, jjI, kkJ, llJ, nnJ, rrJ, iiJ, zIIs, zJJs, nEF, nET, and_false, false_and, jmin, jmax, catS_n, catS_i, catS_r, catS_l, Nat.reduceLeDiff, j1eq1, n21, jt0, jt1, Bool.false_eq_true, Classical.not_not, true_or, or_true, false_or, or_false, true_imp_iff, false_imp_iff, not_true_eq_false, not_false_eq_true, jif0, jif1, jifb, ltT, ltF, leT, leF, eqT, eqF, jlt, jle, jeq, jlt0, jle0, jeq0, jge0, jgt0, jinB, jnat, clt, cle, ceq, cgt, cge, lI_add, lI_sub, lI_mul, jadd, jsub, jmul, jneg, jtol, b010, b011, pv_2t, Int.toNat_natCast, Option.some.injEq, exists_eq_left', if_true, if_false, M, A, ht]
    refine vs_ok 3 ?_
    rw [show ((gRes 211).drop 7).take 3 = [.aload 0, .iconst 24, .iconst 26] from rfl]
    simp (disch := omega) only [vs_iconst, vs_aload0, vs_nil, gv_0, gv_1, gv_2, gv_3, pv_0, pv_1, va_rf_s, Nat.reduceDiv, Nat.reduceMod, Nat.reduceAdd, Nat.reduceMul, Int.reduceToNat, true_and, and_true, and_self, cP_eq, cP_ne, cP_lt, cP_ge, cP_gt, cP_le, eL_i, eL_l, eL_r, eL_n, Option.toList_none, Option.toList_some, List.nil_append, List.cons_append, kkI, llI, nnI, rrI, jjI, kkJ, llJ, nnJ, rrJ, iiJ, zIIs, zJJs, nEF, nET, and_false, false_and, jmin, jmax, catS_n, catS_i, catS_r, catS_l, Nat.reduceLeDiff, j1eq1, n21, jt0, jt1, Bool.false_eq_true, Classical.not_not, true_or, or_true, false_or, or_false, true_imp_iff, false_imp_iff, not_true_eq_false, not_false_eq_true, jif0, jif1, jifb, ltT, ltF, leT, leF, eqT, eqF, jlt, jle, jeq, jlt0, jle0, jeq0, jge0, jgt0, jinB, jnat, clt, cle, ceq, cgt, cge, lI_add, lI_sub, lI_mul, jadd, jsub, jmul, jneg, jtol, b010, b011, pv_2t, Int.toNat_natCast, Option.some.injEq, exists_eq_left', if_true, if_false]
    obtain ⟨W0, t0, w0⟩ := slW_any h m 24
    refine PW.iv rfl rfl rfl M.1 M.2 (le_b rfl) (le_b rfl) ?_
    refine t_M_copy (a := 24) (b := 26) hm (show 24 < 49 by omega) (show 26 < 49 by omega) w0 fun g1 c1 v1 => ⟨rfl, ⟨c1.1.1.2.2.1, rfl⟩, ?_⟩
    have p1 : poR (fun s => 24 ≤ s ∧ s ≤ 26) h g1 m := slC.poR c1 (by omega)
    have b24 : slO g1 m 24 v tm := hv.of fun W t w => c1.o w (by omega)
    have b26 : slO g1 m 26 v tm := fun z => by
      obtain ⟨u, e, a, b⟩ := hv z
      refine ⟨u, e, ⟨fun k hk => ?_, ?_⟩, b⟩
      · rw [v1.1 k hk, ← w0.1 k hk]
        exact a.1 k hk
      · rw [v1.2, ← w0.2]
        exact a.2
    have x1 := x.po p1 (fun s z => Or.inl z) (tm' := tm) (by rw [c1.2.2.2]; exact x.2.2.2)
    have lp : ∀ (i j : Nat) (g : Hp) (tm1 : Bool), i + j = k → 1 ≤ j → poR (fun s => 24 ≤ s ∧ s ≤ 26) h g m → suG g m sz n B Wd Vn s tm1 → tm1 = (tm || (rpV j v).isNone) → slO g m 24 (rpV j v) tm1 → slO g m 26 v tm → PW (D + 2) 211 13 [some (.ref m), l1, some (.int (iI o)), some (.int (iI j))] [] g Q := by
      intro i
      induction i with
      | zero =>
        intro j g tm1 hj _ p xg ht1 v24 _
        have M := xg.m.k
        have A := xg.m.times
        have t1 : zI g (m + 11) o = iI k := by rw [p.2.2.1 _ (by omega)]; exact ht
        refine vs_ok 6 ?_
        rw [show ((gRes 211).drop 13).take 6 = [.iload 3, .aload 0, .getfield 12152, .iload 2, .iaload, .if_icmp .ge 27] from rfl]
        simp (disch := omega) only [vs_if_icmp, vs_getfield, vs_iaload, vs_aload0, vs_iload2, vs_iload3, vs_nil, gv_0, gv_1, gv_2, gv_3, pv_0, pv_1, va_rf_s, Nat.reduceDiv, Nat.reduceMod, Nat.reduceAdd, Nat.reduceMul, Int.reduceToNat, true_and, and_true, and_self, cP_eq, cP_ne, cP_lt, cP_ge, cP_gt, cP_le, eL_i, eL_l, eL_r, eL_n, Option.toList_none, Option.toList_some, List.nil_append, List.cons_append, kkI, llI, nnI, rrI, jjI, kkJ, llJ, nnJ, rrJ, iiJ, zIIs, zJJs, nEF, nET, and_false, false_and, jmin, jmax, catS_n, catS_i, catS_r, catS_l, Nat.reduceLeDiff, j1eq1, n21, jt0, jt1, Bool.false_eq_true, Classical.not_not, true_or, or_true, false_or, or_false, true_imp_iff, false_imp_iff, not_true_eq_false, not_false_eq_true, jif0, jif1, jifb, ltT, ltF, leT, leF, eqT, eqF, jlt, jle, jeq, jlt0, jle0, jeq0, jge0, jgt0, jinB, jnat, clt, cle, ceq, cgt, cge, lI_add, lI_sub, lI_mul, jadd, jsub, jmul, jneg, jtol, b010, b011, pv_2t, Int.toNat_natCast, Option.some.injEq, exists_eq_left', if_true, if_false, M, A, t1]
        refine vs_ok 5 ?_
        rw [show ((gRes 211).drop 27).take 5 = [.aload 0, .getfield 12152, .iload 2, .iconst 0, .iastore] from rfl]
        simp (disch := omega) only [vs_iconst, vs_getfield, vs_iastore, vs_aload0, vs_iload2, vs_nil, gv_0, gv_1, gv_2, gv_3, pv_0, pv_1, va_rf_s, Nat.reduceDiv, Nat.reduceMod, Nat.reduceAdd, Nat.reduceMul, Int.reduceToNat, true_and, and_true, and_self, cP_eq, cP_ne, cP_lt, cP_ge, cP_gt, cP_le, eL_i, eL_l, eL_r, eL_n, Option.toList_none, Option.toList_some, List.nil_append, List.cons_append, kkI, llI, nnI, rrI, jjI, kkJ, llJ, nnJ, rrJ, iiJ, zIIs, zJJs, nEF, nET, and_false, false_and, jmin, jmax, catS_n, catS_i, catS_r, catS_l, Nat.reduceLeDiff, j1eq1, n21, jt0, jt1, Bool.false_eq_true, Classical.not_not, true_or, or_true, false_or, or_false, true_imp_iff, false_imp_iff, not_true_eq_false, not_false_eq_true, jif0, jif1, jifb, ltT, ltF, leT, leF, eqT, eqF, jlt, jle, jeq, jlt0, jle0, jeq0, jge0, jgt0, jinB, jnat, clt, cle, ceq, cgt, cge, lI_add, lI_sub, lI_mul, jadd, jsub, jmul, jneg, jtol, b010, b011, pv_2t, Int.toNat_natCast, Option.some.injEq, exists_eq_left', if_true, if_false, M, A]
        have f1 : fi (fun z => z = m + 11) g (zsI g (m + 11) o (iI 0)) := fi_I rfl
        have ek : tmV k v = rpV j v := by
          show (if k = 0 then v else rpV k v) = _
          rw [if_neg c, show k = j by omega]
        refine K _ tm1 _ ((p.su fun s z => Or.inl z).tr (suC_I (by omega) (by omega) (by omega))) (fun q hq => ?_) (fun s W t hs hp w => (p.sl hs hp w).of rfl rfl) (xg.ar f1 (by omega) rfl) (by rw [ek]; exact ht1) (by rw [ek]; exact v24.of fun W t w => w.of rfl rfl) (by rw [zI_s, if_pos ⟨rfl, rfl⟩])
        funext i
        rw [zI_s, if_neg (by omega), p.2.2.1 _ (by omega)]
      | succ i ih =>
        intro j g tm1 hj hj1 p xg ht1 v24 v26
        have M := xg.m.k
        have A := xg.m.times
        have t1 : zI g (m + 11) o = iI k := by rw [p.2.2.1 _ (by omega)]; exact ht
        refine vs_ok 6 ?_
        rw [show ((gRes 211).drop 13).take 6 = [.iload 3, .aload 0, .getfield 12152, .iload 2, .iaload, .if_icmp .ge 27] from rfl]
        simp (disch := omega) only [vs_if_icmp, vs_getfield, vs_iaload, vs_aload0, vs_iload2, vs_iload3, vs_nil, gv_0, gv_1, gv_2, gv_3, pv_0, pv_1, va_rf_s, Nat.reduceDiv, Nat.reduceMod, Nat.reduceAdd, Nat.reduceMul, Int.reduceToNat, true_and, and_true, and_self, cP_eq, cP_ne, cP_lt, cP_ge, cP_gt, cP_le, eL_i, eL_l, eL_r, eL_n, Option.toList_none, Option.toList_some, List.nil_append, List.cons_append, kkI, llI, nnI, rrI, jjI, kkJ, llJ, nnJ, rrJ, iiJ, zIIs, zJJs, nEF, nET, and_false, false_and, jmin, jmax, catS_n, catS_i, catS_r, catS_l, Nat.reduceLeDiff, j1eq1, n21, jt0, jt1, Bool.false_eq_true, Classical.not_not, true_or, or_true, false_or, or_false, true_imp_iff, false_imp_iff, not_true_eq_false, not_false_eq_true, jif0, jif1, jifb, ltT, ltF, leT, leF, eqT, eqF, jlt, jle, jeq, jlt0, jle0, jeq0, jge0, jgt0, jinB, jnat, clt, cle, ceq, cgt, cge, lI_add, lI_sub, lI_mul, jadd, jsub, jmul, jneg, jtol, b010, b011, pv_2t, Int.toNat_natCast, Option.some.injEq, exists_eq_left', if_true, if_false, M, A, t1]
        refine vs_ok 5 ?_
        rw [show ((gRes 211).drop 19).take 5 = [.aload 0, .iconst 24, .iconst 26, .iconst 0, .iconst 24] from rfl]
        simp (disch := omega) only [vs_iconst, vs_aload0, vs_nil, gv_0, gv_1, gv_2, gv_3, pv_0, pv_1, va_rf_s, Nat.reduceDiv, Nat.reduceMod, Nat.reduceAdd, Nat.reduceMul, Int.reduceToNat, true_and, and_true, and_self, cP_eq, cP_ne, cP_lt, cP_ge, cP_gt, cP_le, eL_i, eL_l, eL_r, eL_n, Option.toList_none, Option.toList_some, List.nil_append, List.cons_append, kkI, llI, nnI, rrI, jjI, kkJ, llJ, nnJ, rrJ, iiJ, zIIs, zJJs, nEF, nET, and_false, false_and, jmin, jmax, catS_n, catS_i, catS_r, catS_l, Nat.reduceLeDiff, j1eq1, n21, jt0, jt1, Bool.false_eq_true, Classical.not_not, true_or, or_true, false_or, or_false, true_imp_iff, false_imp_iff, not_true_eq_false, not_false_eq_true, jif0, jif1, jifb, ltT, ltF, leT, leF, eqT, eqF, jlt, jle, jeq, jlt0, jle0, jeq0, jge0, jgt0, jinB, jnat, clt, cle, ceq, cgt, cge, lI_add, lI_sub, lI_mul, jadd, jsub, jmul, jneg, jtol, b010, b011, pv_2t, Int.toNat_natCast, Option.some.injEq, exists_eq_left', if_true, if_false]
        have v26' : slO g m 26 v tm1 := v26.mo fun z => by rw [ht1] at z; exact (Bool.or_eq_false_iff.mp z).1
        refine PW.iv rfl rfl rfl M.1 M.2 (le_b rfl) (le_b rfl) ?_
        refine t_bothO (a := 24) (b := 26) (to := 24) xg.m (show 24 < 49 ∧ 24 ≠ 25 by omega) (show 26 < 49 ∧ 26 ≠ 25 by omega) (show 24 < 49 ∧ 24 ≠ 25 by omega) xg.2.2.2 v24 v26' fun g2 tm2 p2 g7 e2 v2 => ⟨rfl, ⟨p2.1.1.2.2.1, rfl⟩, ?_⟩
        rw [rpV_s hj1] at e2 v2
        refine vs_ok 2 ?_
        rw [show ((gRes 211).drop 25).take 2 = [.iinc 3 1, .goto 13] from rfl]
        simp (disch := omega) only [vs_goto, vs_iinc3n, vs_iinc3i, vs_iinc3r, vs_iinc3l, vs_nil, gv_0, gv_1, gv_2, gv_3, pv_0, pv_1, va_rf_s, Nat.reduceDiv, Nat.reduceMod, Nat.reduceAdd, Nat.reduceMul, Int.reduceToNat, true_and, and_true, and_self, cP_eq, cP_ne, cP_lt, cP_ge, cP_gt, cP_le, eL_i, eL_l, eL_r, eL_n, Option.toList_none, Option.toList_some, List.nil_append, List.cons_append, kkI, llI, nnI, rrI, jjI, kkJ, llJ, nnJ, rrJ, iiJ, zIIs, zJJs, nEF, nET, and_false, false_and, jmin, jmax, catS_n, catS_i, catS_r, catS_l, Nat.reduceLeDiff, j1eq1, n21, jt0, jt1, Bool.false_eq_true, Classical.not_not, true_or, or_true, false_or, or_false, true_imp_iff, false_imp_iff, not_true_eq_false, not_false_eq_true, jif0, jif1, jifb, ltT, ltF, leT, leF, eqT, eqF, jlt, jle, jeq, jlt0, jle0, jeq0, jge0, jgt0, jinB, jnat, clt, cle, ceq, cgt, cge, lI_add, lI_sub, lI_mul, jadd, jsub, jmul, jneg, jtol, b010, b011, pv_2t, Int.toNat_natCast, Option.some.injEq, exists_eq_left', if_true, if_false]
        refine ih (j + 1) g2 tm2 (by omega) (by omega) (p.tr (p2.wk fun s z => by omega)) (xg.po p2 (fun s z => by omega) g7) ?_ v2 (v26.of fun W t w => p2.sl (by omega) (by omega) w)
        rw [e2, ht1]
        have : ((rpV j v).isNone || (rpV ((j + 1 : Nat) : Int) v).isNone) = (rpV ((j + 1 : Nat) : Int) v).isNone := by
          rw [← rpV_s hj1]
          have := jnO_n (mi := 0) (a := rpV j v) (b := v)
          cases e : (rpV j v).isNone with
          | false => rfl
          | true =>
            rw [e] at this
            exact (this.symm.trans rfl).symm ▸ rfl
        rw [Bool.or_assoc, this]
    refine vs_ok 2 ?_
    rw [show ((gRes 211).drop 11).take 2 = [.iconst 1, .istore 3] from rfl]
    simp (disch := omega) only [vs_iconst, vs_istore3n, vs_istore3i, vs_istore3r, vs_istore3l, vs_nil, gv_0, gv_1, gv_2, gv_3, pv_0, pv_1, va_rf_s, Nat.reduceDiv, Nat.reduceMod, Nat.reduceAdd, Nat.reduceMul, Int.reduceToNat, true_and, and_true, and_self, cP_eq, cP_ne, cP_lt, cP_ge, cP_gt, cP_le, eL_i, eL_l, eL_r, eL_n, Option.toList_none, Option.toList_some, List.nil_append, List.cons_append, kkI, llI, nnI, rrI, jjI, kkJ, llJ, nnJ, rrJ, iiJ, zIIs, zJJs, nEF, nET, and_false, false_and, jmin, jmax, catS_n, catS_i, catS_r, catS_l, Nat.reduceLeDiff, j1eq1, n21, jt0, jt1, Bool.false_eq_true, Classical.not_not, true_or, or_true, false_or, or_false, true_imp_iff, false_imp_iff, not_true_eq_false, not_false_eq_true, jif0, jif1, jifb, ltT, ltF, leT, leF, eqT, eqF, jlt, jle, jeq, jlt0, jle0, jeq0, jge0, jgt0, jinB, jnat, clt, cle, ceq, cgt, cge, lI_add, lI_sub, lI_mul, jadd, jsub, jmul, jneg, jtol, b010, b011, pv_2t, Int.toNat_natCast, Option.some.injEq, exists_eq_left', if_true, if_false]
    refine lp (k - 1) 1 g1 tm (by omega) (by omega) p1 x1 ?_ (by rw [show rpV ((1 : Nat) : Int) v = v from rpV_1 v]; exact b24) b26
    rw [show rpV ((1 : Nat) : Int) v = v from rpV_1 v]
    cases tm with
    | true => rfl
    | false =>
      obtain ⟨u, e, -⟩ := hv rfl
      rw [e]
      rfl
abbrev reV (k : Nat) (mi hs : Bool) (acc v : Option RowVal) : Option RowVal := if hs = true then jnO (if mi = true then 1 else 0) acc (tmV k v) else if mi = true then ngO (tmV k v) else tmV k v
theorem jn_ng {a b : RowVal} : jnO 1 (some a) (some b) = jnO 0 (some a) (some (ngV b)) := by
  show (if okS 1 a b then some (adV 1 a b) else none) = if okS 0 a (ngV b) then some (adV 0 a (ngV b)) else none
  have e : okS 1 a b ↔ okS 0 a (ngV b) := by
    unfold okS
    rw [ad_ng]
    exact Iff.rfl
  by_cases c : okS 1 a b
  · rw [if_pos c, if_pos (e.mp c), ad_ng]
  · rw [if_neg c, if_neg fun z => c (e.mpr z)]
theorem t_red {D : Nat} {h : Hp} {m sz n o k : Nat} {B Wd : Nat → Int} {Vn : Nat → RowVal} {s : R4} {tm mi hs : Bool} {v acc : Option RowVal} {l1 l3 : Option Value} {Q : Nat → Option Value → Hp → Prop} (x : suG h m sz n B Wd Vn s tm) (ho : o ≤ 10) (ht : zI h (m + 11) o = iI k) (hk : k ≤ 6) (h10 : zI h (m + 10) o = iI (if mi = true then -1 else 1)) (h12 : zI h (m + 12) o = iI (if hs = true then 1 else 0)) (hv : slO h m 24 v tm) (ha : hs = true → slO h m (27 + o) acc tm)
    (K : ∀ g tm' l3, suC o h g m → suG g m sz n B Wd Vn s tm' → tm' = (tm || (reV k mi hs acc v).isNone) → slO g m (27 + o) (reV k mi hs acc v) tm' → zI g (m + 11) o = iI 0 → zI g (m + 12) o = iI 1 → PW (D + 2) 211 67 [some (.ref m), l1, some (.int (iI o)), l3] [] g Q) : PW (D + 2) 211 2 [some (.ref m), l1, some (.int (iI o)), l3] [] h Q := by
  refine t_redA x ho ht hk hv fun g1 tm1 l3' c1 a1 s1 x1 e1 v1 t1 => ?_
  have M := x1.m.k
  have A10 := x1.m.signed
  have y10 : zI g1 (m + 10) o = iI (if mi = true then -1 else 1) := by rw [a1 _ (by omega)]; exact h10
  have y12 : zI g1 (m + 12) o = iI (if hs = true then 1 else 0) := by rw [a1 _ (by omega)]; exact h12
  have ya : hs = true → slO g1 m (27 + o) acc tm1 := fun z => ((ha z).of fun W t w => s1 _ W t (by omega) (by omega) w).mo fun z => by rw [e1] at z; exact (Bool.or_eq_false_iff.mp z).1
  -- the end
  have p62 : ∀ (g : Hp) (tm' : Bool), suC o h g m → suG g m sz n B Wd Vn s tm' → tm' = (tm || (reV k mi hs acc v).isNone) → slO g m (27 + o) (reV k mi hs acc v) tm' → zI g (m + 11) o = iI 0 → PW (D + 2) 211 62 [some (.ref m), l1, some (.int (iI o)), l3'] [] g Q := fun g tm' c xg e vg tg => by
    have M := xg.m.k
    have A12 := xg.m.has
    refine vs_ok 4 ?_
    rw [show ((gRes 211).drop 62).take 4 = [.aload 0, .getfield 12162, .iload 2, .iconst 1] from rfl]
    simp (disch := omega) only [vs_iconst, vs_getfield, vs_aload0, vs_iload2, vs_nil, gv_0, gv_1, gv_2, gv_3, pv_0, pv_1, va_rf_s, Nat.reduceDiv, Nat.reduceMod, Nat.reduceAdd, Nat.reduceMul, Int.reduceToNat, true_and, and_true, and_self, cP_eq, cP_ne, cP_lt, cP_ge, cP_gt, cP_le, eL_i, eL_l, eL_r, eL_n, Option.toList_none, Option.toList_some, List.nil_append, List.cons_append, kkI, llI, nnI, rrI, jjI, kkJ, llJ, nnJ, rrJ, iiJ, zIIs, zJJs, nEF, nET, and_false, false_and, jmin, jmax, catS_n, catS_i, catS_r, catS_l, Nat.reduceLeDiff, j1eq1, n21, jt0, jt1, Bool.false_eq_true, Classical.not_not, true_or, or_true, false_or, or_false, true_imp_iff, false_imp_iff, not_true_eq_false, not_false_eq_true, jif0, jif1, jifb, ltT, ltF, leT, leF, eqT, eqF, jlt, jle, jeq, jlt0, jle0, jeq0, jge0, jgt0, jinB, jnat, clt, cle, ceq, cgt, cge, lI_add, lI_sub, lI_mul, jadd, jsub, jmul, jneg, jtol, b010, b011, pv_2t, Int.toNat_natCast, Option.some.injEq, exists_eq_left', if_true, if_false, M, A12]
    refine PW.bos rfl ⟨A12.2.1, A12.2.2.1, by rw [A12.2.2.2]; exact (inB_iI (by constructor <;> omega)).mpr ⟨by omega, by omega⟩⟩ ?_
    rw [show (iI (o : Int)).toNatClampNeg = o from jnat (by omega) (by omega)]
    have f1 : fi (fun z => z = m + 12) g (zsI g (m + 12) o (vp_nar .boolean (iI 1))) := fi_I rfl
    exact K _ tm' l3' (c.tr (suC_I (by omega) (by omega) (by omega))) (xg.ar f1 (by omega) rfl) e (vg.of fun W t w => w.of rfl rfl) (by rw [zI_s, if_neg (by omega)]; exact tg) (by rw [zI_s, if_pos ⟨rfl, rfl⟩]; rfl)
  have e27 : (27 : Int) + (o : Int) = ((27 + o : Nat) : Int) := by omega
  -- behind the sign
  have p40 : ∀ (g : Hp) (w : Option RowVal), poR (fun s => s = 24) g1 g m → zI g = zI g1 → slO g m 24 w tm1 → (tm1 = false → ∃ u, tmV k v = some u ∧ gV u ∧ w = some (if mi = true then ngV u else u)) → PW (D + 2) 211 40 [some (.ref m), l1, some (.int (iI o)), l3'] [] g Q := fun g w p eI vg hw => by
    have xg := x1.po p (fun s z => by omega) (tm' := tm1) (by rw [eI]; exact x1.2.2.2)
    have M := xg.m.k
    have A12 := xg.m.has
    have z12 : zI g (m + 12) o = iI (if hs = true then 1 else 0) := by rw [eI]; exact y12
    have zt : zI g (m + 11) o = iI 0 := by rw [eI]; exact t1
    have cg : suC o h g m := c1.tr (p.su fun s z => by omega)
    cases hs with
    | true =>
      have z12 : zI g (m + 12) o = iI 1 := z12
      have za : slO g m (27 + o) acc tm1 := (ya rfl).of fun W t w => p.sl (by omega) (by omega) w
      refine vs_ok 5 ?_
      rw [show ((gRes 211).drop 40).take 5 = [.aload 0, .getfield 12162, .iload 2, .baload, .ifCond .eq 56] from rfl]
      simp (disch := omega) only [vs_ifCond, vs_getfield, vs_aload0, vs_iload2, vs_nil, gv_0, gv_1, gv_2, gv_3, pv_0, pv_1, va_rf_s, vs_baload, Nat.reduceDiv, Nat.reduceMod, Nat.reduceAdd, Nat.reduceMul, Int.reduceToNat, true_and, and_true, and_self, cP_eq, cP_ne, cP_lt, cP_ge, cP_gt, cP_le, eL_i, eL_l, eL_r, eL_n, Option.toList_none, Option.toList_some, List.nil_append, List.cons_append, kkI, llI, nnI, rrI, jjI, kkJ, llJ, nnJ, rrJ, iiJ, zIIs, zJJs, nEF, nET, and_false, false_and, jmin, jmax, catS_n, catS_i, catS_r, catS_l, Nat.reduceLeDiff, j1eq1, n21, jt0, jt1, Bool.false_eq_true, Classical.not_not, true_or, or_true, false_or, or_false, true_imp_iff, false_imp_iff, not_true_eq_false, not_false_eq_true, jif0, jif1, jifb, ltT, ltF, leT, leF, eqT, eqF, jlt, jle, jeq, jlt0, jle0, jeq0, jge0, jgt0, jinB, jnat, clt, cle, ceq, cgt, cge, lI_add, lI_sub, lI_mul, jadd, jsub, jmul, jneg, jtol, b010, b011, pv_2t, Int.toNat_natCast, Option.some.injEq, exists_eq_left', if_true, if_false, M, A12, z12, or_true, true_or]
      refine vs_ok 9 ?_
      rw [show ((gRes 211).drop 45).take 9 = [.aload 0, .iconst 27, .iload 2, .iadd, .iconst 24, .iconst 0, .iconst 27, .iload 2, .iadd] from rfl]
      simp (disch := omega) only [vs_iadd, vs_iconst, vs_aload0, vs_iload2, vs_nil, gv_0, gv_1, gv_2, gv_3, pv_0, pv_1, va_rf_s, Nat.reduceDiv, Nat.reduceMod, Nat.reduceAdd, Nat.reduceMul, Int.reduceToNat, true_and, and_true, and_self, cP_eq, cP_ne, cP_lt, cP_ge, cP_gt, cP_le, eL_i, eL_l, eL_r, eL_n, Option.toList_none, Option.toList_some, List.nil_append, List.cons_append, kkI, llI, nnI, rrI, jjI, kkJ, llJ, nnJ, rrJ, iiJ, zIIs, zJJs, nEF, nET, and_false, false_and, jmin, jmax, catS_n, catS_i, catS_r, catS_l, Nat.reduceLeDiff, j1eq1, n21, jt0, jt1, Bool.false_eq_true, Classical.not_not, true_or, or_true, false_or, or_false, true_imp_iff, false_imp_iff, not_true_eq_false, not_false_eq_true, jif0, jif1, jifb, ltT, ltF, leT, leF, eqT, eqF, jlt, jle, jeq, jlt0, jle0, jeq0, jge0, jgt0, jinB, jnat, clt, cle, ceq, cgt, cge, lI_add, lI_sub, lI_mul, jadd, jsub, jmul, jneg, jtol, b010, b011, pv_2t, Int.toNat_natCast, Option.some.injEq, exists_eq_left', if_true, if_false, e27]
      refine PW.iv rfl rfl rfl M.1 M.2 (le_b rfl) (le_b rfl) ?_
      refine t_bothO (a := 27 + o) (b := 24) (to := 27 + o) xg.m (show 27 + o < 49 ∧ 27 + o ≠ 25 by omega) (show 24 < 49 ∧ 24 ≠ 25 by omega) (show 27 + o < 49 ∧ 27 + o ≠ 25 by omega) xg.2.2.2 za vg fun g2 tm2 p2 g7 e2 v2 => ⟨rfl, ⟨p2.1.1.2.2.1, rfl⟩, ?_⟩
      refine vs_ok 1 ?_
      rw [show ((gRes 211).drop 55).take 1 = [.goto 62] from rfl]
      simp (disch := omega) only [vs_goto, vs_nil, gv_0, gv_1, gv_2, gv_3, pv_0, pv_1, va_rf_s, Nat.reduceDiv, Nat.reduceMod, Nat.reduceAdd, Nat.reduceMul, Int.reduceToNat, true_and, and_true, and_self, cP_eq, cP_ne, cP_lt, cP_ge, cP_gt, cP_le, eL_i, eL_l, eL_r, eL_n, Option.toList_none, Option.toList_some, List.nil_append, List.cons_append, kkI, llI, nnI, rrI, jjI, kkJ, llJ, nnJ, rrJ, iiJ, zIIs, zJJs, nEF, nET, and_false, false_and, jmin, jmax, catS_n, catS_i, catS_r, catS_l, Nat.reduceLeDiff, j1eq1, n21, jt0, jt1, Bool.false_eq_true, Classical.not_not, true_or, or_true, false_or, or_false, true_imp_iff, false_imp_iff, not_true_eq_false, not_false_eq_true, jif0, jif1, jifb, ltT, ltF, leT, leF, eqT, eqF, jlt, jle, jeq, jlt0, jle0, jeq0, jge0, jgt0, jinB, jnat, clt, cle, ceq, cgt, cge, lI_add, lI_sub, lI_mul, jadd, jsub, jmul, jneg, jtol, b010, b011, pv_2t, Int.toNat_natCast, Option.some.injEq, exists_eq_left', if_true, if_false]
      have x2 := xg.po p2 (fun s z => by omega) g7
      have c2 : suC o h g2 m := cg.tr (p2.su fun s z => by omega)
      have t2 : zI g2 (m + 11) o = iI 0 := by rw [p2.2.2.1 _ (by omega)]; exact zt
      have er : reV k mi true acc v = jnO (if mi = true then 1 else 0) acc (tmV k v) := if_pos rfl
      cases htm : tm1 with
      | true =>
        rw [htm] at e1 e2
        have e2 : tm2 = true := e2
        refine p62 g2 tm2 c2 x2 ?_ (fun z => by rw [e2] at z; cases z) t2
        rw [e2, er]
        cases tm with
        | true => rfl
        | false =>
          have e1 : true = (tmV k v).isNone := e1
          have en : tmV k v = none := Option.isNone_iff_eq_none.mp e1.symm
          rw [en]
          cases acc <;> rfl
      | false =>
        obtain ⟨u, eu, gu, ew⟩ := hw htm
        obtain ⟨a, ea, -⟩ := za htm
        have ej : jnO 0 acc w = reV k mi true acc v := by
          rw [er, ew, ea, eu]
          cases mi
          · rfl
          · exact jn_ng.symm
        rw [ej] at e2 v2
        have et : tm = false := by
          rw [htm] at e1
          exact (Bool.or_eq_false_iff.mp e1.symm).1
        refine p62 g2 tm2 c2 x2 ?_ v2 t2
        rw [e2, htm, et]
    | false =>
      have z12 : zI g (m + 12) o = iI 0 := z12
      refine vs_ok 5 ?_
      rw [show ((gRes 211).drop 40).take 5 = [.aload 0, .getfield 12162, .iload 2, .baload, .ifCond .eq 56] from rfl]
      simp (disch := omega) only [vs_ifCond, vs_getfield, vs_aload0, vs_iload2, vs_nil, gv_0, gv_1, gv_2, gv_3, pv_0, pv_1, va_rf_s, vs_baload, Nat.reduceDiv, Nat.reduceMod, Nat.reduceAdd, Nat.reduceMul, Int.reduceToNat, true_and, and_true, and_self, cP_eq, cP_ne, cP_lt, cP_ge, cP_gt, cP_le, eL_i, eL_l, eL_r, eL_n, Option.toList_none, Option.toList_some, List.nil_append, List.cons_append, kkI, llI, nnI, rrI, jjI, kkJ, llJ, nnJ, rrJ, iiJ, zIIs, zJJs, nEF, nET, and_false, false_and, jmin, jmax, catS_n, catS_i, catS_r, catS_l, Nat.reduceLeDiff, j1eq1, n21, jt0, jt1, Bool.false_eq_true, Classical.not_not, true_or, or_true, false_or, or_false, true_imp_iff, false_imp_iff, not_true_eq_false, not_false_eq_true, jif0, jif1, jifb, ltT, ltF, leT, leF, eqT, eqF, jlt, jle, jeq, jlt0, jle0, jeq0, jge0, jgt0, jinB, jnat, clt, cle, ceq, cgt, cge, lI_add, lI_sub, lI_mul, jadd, jsub, jmul, jneg, jtol, b010, b011, pv_2t, Int.toNat_natCast, Option.some.injEq, exists_eq_left', if_true, if_false, M, A12, z12, or_true, true_or]
      refine vs_ok 5 ?_
      rw [show ((gRes 211).drop 56).take 5 = [.aload 0, .iconst 24, .iconst 27, .iload 2, .iadd] from rfl]
      simp (disch := omega) only [vs_iadd, vs_iconst, vs_aload0, vs_iload2, vs_nil, gv_0, gv_1, gv_2, gv_3, pv_0, pv_1, va_rf_s, Nat.reduceDiv, Nat.reduceMod, Nat.reduceAdd, Nat.reduceMul, Int.reduceToNat, true_and, and_true, and_self, cP_eq, cP_ne, cP_lt, cP_ge, cP_gt, cP_le, eL_i, eL_l, eL_r, eL_n, Option.toList_none, Option.toList_some, List.nil_append, List.cons_append, kkI, llI, nnI, rrI, jjI, kkJ, llJ, nnJ, rrJ, iiJ, zIIs, zJJs, nEF, nET, and_false, false_and, jmin, jmax, catS_n, catS_i, catS_r, catS_l, Nat.reduceLeDiff, j1eq1, n21, jt0, jt1, Bool.false_eq_true, Classical.not_not, true_or, or_true, false_or, or_false, true_imp_iff, false_imp_iff, not_true_eq_false, not_false_eq_true, jif0, jif1, jifb, ltT, ltF, leT, leF, eqT, eqF, jlt, jle, jeq, jlt0, jle0, jeq0, jge0, jgt0, jinB, jnat, clt, cle, ceq, cgt, cge, lI_add, lI_sub, lI_mul, jadd, jsub, jmul, jneg, jtol, b010, b011, pv_2t, Int.toNat_natCast, Option.some.injEq, exists_eq_left', if_true, if_false, e27]
      refine PW.iv rfl rfl rfl M.1 M.2 (le_b rfl) (le_b rfl) ?_
      refine t_copyO (a := 24) (b := 27 + o) xg.m (show 24 < 49 by omega) (show 27 + o < 49 by omega) (by omega) vg fun g2 p2 eI2 v2 => ⟨rfl, ⟨p2.1.1.2.2.1, rfl⟩, ?_⟩
      have x2 := xg.po p2 (fun s z => by omega) (tm' := tm1) (by rw [eI2]; exact xg.2.2.2)
      have er : reV k mi false acc v = if mi = true then ngO (tmV k v) else tmV k v := if_neg (by decide)
      have en : (reV k mi false acc v).isNone = (tmV k v).isNone := by
        rw [er]
        cases mi with
        | false => rfl
        | true => cases tmV k v <;> rfl
      refine p62 g2 tm1 (cg.tr (p2.su fun s z => by omega)) x2 (by rw [en]; exact e1) (fun z => ?_) (by rw [eI2]; exact zt)
      obtain ⟨u, eu, gu, ew⟩ := hw z
      obtain ⟨u2, e2, a2, b2⟩ := v2 z
      refine ⟨u2, ?_, a2, b2⟩
      rw [← e2, ew, er, eu]
      cases mi with
      | false => rfl
      | true =>
        show some (adV 1 (nuV 0) u) = some (ngV u)
        rw [ng_ad gu.spt]
  cases mi with
  | false =>
    have y10 : zI g1 (m + 10) o = iI 1 := y10
    refine vs_ok 5 ?_
    rw [show ((gRes 211).drop 32).take 5 = [.aload 0, .getfield 12142, .iload 2, .iaload, .ifCond .ge 40] from rfl]
    simp (disch := omega) only [vs_ifCond, vs_getfield, vs_iaload, vs_aload0, vs_iload2, vs_nil, gv_0, gv_1, gv_2, gv_3, pv_0, pv_1, va_rf_s, Nat.reduceDiv, Nat.reduceMod, Nat.reduceAdd, Nat.reduceMul, Int.reduceToNat, true_and, and_true, and_self, cP_eq, cP_ne, cP_lt, cP_ge, cP_gt, cP_le, eL_i, eL_l, eL_r, eL_n, Option.toList_none, Option.toList_some, List.nil_append, List.cons_append, kkI, llI, nnI, rrI, jjI, kkJ, llJ, nnJ, rrJ, iiJ, zIIs, zJJs, nEF, nET, and_false, false_and, jmin, jmax, catS_n, catS_i, catS_r, catS_l, Nat.reduceLeDiff, j1eq1, n21, jt0, jt1, Bool.false_eq_true, Classical.not_not, true_or, or_true, false_or, or_false, true_imp_iff, false_imp_iff, not_true_eq_false, not_false_eq_true, jif0, jif1, jifb, ltT, ltF, leT, leF, eqT, eqF, jlt, jle, jeq, jlt0, jle0, jeq0, jge0, jgt0, jinB, jnat, clt, cle, ceq, cgt, cge, lI_add, lI_sub, lI_mul, jadd, jsub, jmul, jneg, jtol, b010, b011, pv_2t, Int.toNat_natCast, Option.some.injEq, exists_eq_left', if_true, if_false, M, A10, y10]
    exact p40 g1 (tmV k v) poR.rf rfl v1 fun z => by
      obtain ⟨u, e, a, b⟩ := v1 z
      exact ⟨u, e, b, e⟩
  | true =>
    have y10 : zI g1 (m + 10) o = iI (-1) := y10
    refine vs_ok 5 ?_
    rw [show ((gRes 211).drop 32).take 5 = [.aload 0, .getfield 12142, .iload 2, .iaload, .ifCond .ge 40] from rfl]
    simp (disch := omega) only [vs_ifCond, vs_getfield, vs_iaload, vs_aload0, vs_iload2, vs_nil, gv_0, gv_1, gv_2, gv_3, pv_0, pv_1, va_rf_s, Nat.reduceDiv, Nat.reduceMod, Nat.reduceAdd, Nat.reduceMul, Int.reduceToNat, true_and, and_true, and_self, cP_eq, cP_ne, cP_lt, cP_ge, cP_gt, cP_le, eL_i, eL_l, eL_r, eL_n, Option.toList_none, Option.toList_some, List.nil_append, List.cons_append, kkI, llI, nnI, rrI, jjI, kkJ, llJ, nnJ, rrJ, iiJ, zIIs, zJJs, nEF, nET, and_false, false_and, jmin, jmax, catS_n, catS_i, catS_r, catS_l, Nat.reduceLeDiff, j1eq1, n21, jt0, jt1, Bool.false_eq_true, Classical.not_not, true_or, or_true, false_or, or_false, true_imp_iff, false_imp_iff, not_true_eq_false, not_false_eq_true, jif0, jif1, jifb, ltT, ltF, leT, leF, eqT, eqF, jlt, jle, jeq, jlt0, jle0, jeq0, jge0, jgt0, jinB, jnat, clt, cle, ceq, cgt, cge, lI_add, lI_sub, lI_mul, jadd, jsub, jmul, jneg, jtol, b010, b011, pv_2t, Int.toNat_natCast, Option.some.injEq, exists_eq_left', if_true, if_false, M, A10, y10]
    refine vs_ok 2 ?_
    rw [show ((gRes 211).drop 37).take 2 = [.aload 0, .iconst 24] from rfl]
    simp (disch := omega) only [vs_iconst, vs_aload0, vs_nil, gv_0, gv_1, gv_2, gv_3, pv_0, pv_1, va_rf_s, Nat.reduceDiv, Nat.reduceMod, Nat.reduceAdd, Nat.reduceMul, Int.reduceToNat, true_and, and_true, and_self, cP_eq, cP_ne, cP_lt, cP_ge, cP_gt, cP_le, eL_i, eL_l, eL_r, eL_n, Option.toList_none, Option.toList_some, List.nil_append, List.cons_append, kkI, llI, nnI, rrI, jjI, kkJ, llJ, nnJ, rrJ, iiJ, zIIs, zJJs, nEF, nET, and_false, false_and, jmin, jmax, catS_n, catS_i, catS_r, catS_l, Nat.reduceLeDiff, j1eq1, n21, jt0, jt1, Bool.false_eq_true, Classical.not_not, true_or, or_true, false_or, or_false, true_imp_iff, false_imp_iff, not_true_eq_false, not_false_eq_true, jif0, jif1, jifb, ltT, ltF, leT, leF, eqT, eqF, jlt, jle, jeq, jlt0, jle0, jeq0, jge0, jgt0, jinB, jnat, clt, cle, ceq, cgt, cge, lI_add, lI_sub, lI_mul, jadd, jsub, jmul, jneg, jtol, b010, b011, pv_2t, Int.toNat_natCast, Option.some.injEq, exists_eq_left', if_true, if_false]
    cases htm : tm1 with
    | true =>
      obtain ⟨W0, t0, w0⟩ := slW_any g1 m 24
      refine PW.iv rfl rfl rfl M.1 M.2 (le_b rfl) (le_b rfl) ?_
      refine t_M_turnOver (s := 24) x1.m (show 24 < 49 by omega) w0 fun g2 c2 v2 => ⟨rfl, ⟨c2.1.1.2.2.1, rfl⟩, ?_⟩
      exact p40 g2 none (slC.poR c2 rfl) c2.2.2.2 (fun z => by rw [htm] at z; cases z) (fun z => by rw [htm] at z; cases z)
    | false =>
      obtain ⟨u, e, a, b⟩ := v1 htm
      refine PW.iv rfl rfl rfl M.1 M.2 (le_b rfl) (le_b rfl) ?_
      refine t_M_turnOver (s := 24) x1.m (show 24 < 49 by omega) a fun g2 c2 v2 => ⟨rfl, ⟨c2.1.1.2.2.1, rfl⟩, ?_⟩
      exact p40 g2 (some (ngV u)) (slC.poR c2 rfl) c2.2.2.2 (fun _ => ⟨ngV u, rfl, v2, gV_ng b⟩) (fun _ => ⟨u, e, b, rfl⟩)
