/-! Teller: tell, handOver -/
/-- what a text tells: FAULT's kind (0: none) and place; NAMES, FACES, words, values -/
abbrev TRes : Type := Int × Int × Nat × (Nat → Int) × (Nat → Int) × (Nat → RowVal)
def tlS (B : Nat → Int) (len : Int) : Nat → Nat → (Nat → Int) → (Nat → Int) → (Nat → RowVal) → R4 → Option TRes
  | 0, _, _, _, _, _ => none
  | k + 1, nm, F, Wd, V, s =>
    if s.2.1 = 0 then some (if 500 < len then (1, s.2.2.2, nm, F, Wd, V) else (0, 0, nm, F, Wd, V))
    else if (hdS B len Wd nm s).1 = false then some ((hdS B len Wd nm s).2.1, (hdS B len Wd nm s).2.2.1, nm, F, Wd, V)
    else if (hdS B len Wd nm s).2.2.2.2.1 = true then
      (if (diS B len (V nm) (hdS B len Wd nm s).2.2.2.1).1 = false then some ((diS B len (V nm) (hdS B len Wd nm s).2.2.2.1).2.1, (diS B len (V nm) (hdS B len Wd nm s).2.2.2.1).2.2.1, nm, F, Wd, V)
      else tlS B len k (nm + 1) (upI F nm (diS B len (V nm) (hdS B len Wd nm s).2.2.2.1).2.2.2.2.1) (upI Wd nm (hdS B len Wd nm s).2.2.2.2.2) (upV V nm (diS B len (V nm) (hdS B len Wd nm s).2.2.2.1).2.2.2.2.2) (diS B len (V nm) (hdS B len Wd nm s).2.2.2.1).2.2.2.1)
    else match leS B len Wd nm V (hdS B len Wd nm s).2.2.2.1 with
      | none => none
      | some r => if r.1 = false then some (r.2.1, r.2.2.1, nm, F, Wd, V) else tlS B len k (nm + 1) (upI F nm 0) (upI Wd nm (hdS B len Wd nm s).2.2.2.2.2) (upV V nm r.2.2.2.2) r.2.2.2.1
theorem t_tell {D : Nat} {h : Hp} {t to tx nm0 : Nat} {len va : Int} {B : Nat → Int} {st : List RowVal} {tm : Bool} {F Wd : Nat → Int} {V : Nat → RowVal} {R : TRes} {Q : Nat → Option Value → Hp → Prop} (ho : teO h t to) (hr1 : zK h (t + 1) = 5) (hva : zI h (t + 1) 4 = iI va) (hvb : 0 ≤ va ∧ va ≤ 400000000) (htx : zK h tx = 14 ∧ tx < zN h ∧ zL h tx = 540 ∧ (∀ i, i < 540 → zI h tx i = iI (B i)) ∧ ∀ i, 0 ≤ B i ∧ B i ≤ 255) (hl : 0 ≤ len ∧ len ≤ 540) (hb : bnS h (t + 3) st tm) (htb : isTb h to nm0 F Wd) (hrow : ∀ k, k < 12 → rowP h (to + 4 + 2 * k) 200 (V k)) (d1 : to + 28 ≤ t ∨ t + 59 ≤ to) (d2 : tx < t ∨ t + 59 ≤ tx) (d3 : tx < to ∨ to + 28 ≤ tx) (wb : ∀ i, i < 12 → i32 (Wd i))
    (hR : tlS B len 13 0 F Wd V (adF B len 0 va) = some R) (hfk : i32 R.1)
    (hT : R.1 = 0 → ∀ g s st2 tm2, fr (teB t to) h g → teS g t to tx len B s st2 tm2 R.2.2.1 R.2.2.2.1 R.2.2.2.2.1 R.2.2.2.2.2 → (∀ k, k < R.2.2.1 → gV (R.2.2.2.2.2 k)) → Q 0 (some (.int (iI 0))) g)
    (hF : R.1 ≠ 0 → ∀ g s st2 tm2 nm2 F2 Wd2 V2, fr (teB t to) h g → teS g t to tx len B s st2 tm2 nm2 F2 Wd2 V2 → zI g t 6 = iI R.2.1 → Q 0 (some (.int (iI R.1))) g) : PR (D + 122) m_Teller_tell [.ref t, .ref tx, .int (iI len)] h Q := by
  have toB : ∀ {g g2 : Hp}, fr (teA t) g g2 → fr (teB t to) g g2 := fun f => f.wk fun q z => Or.inl z
  have tb1 := htb.2.1
  have tk := htb.1
  have hX : fr (fun q => q = to) h (zsI h to 3 (iI 0)) := fr_I rfl
  show PW (D + 122) 95 0 [some (.ref t), some (.ref tx), some (.int (iI len)), none, none] [] h Q
  refine vs_ok 4 ?_
  rw [show ((gRes 95).drop 0).take 4 = [.aload 0, .getfield 8022, .iconst 0, .putfield 7030] from rfl]
  simp (disch := omega) only [vs_iconst, vs_getfield, vs_putfield, vs_aload0, vs_nil, gv_0, gv_1, gv_2, gv_3, pv_0, pv_1, va_rf_s, Nat.reduceDiv, Nat.reduceMod, Nat.reduceAdd, Nat.reduceMul, Int.reduceToNat, true_and, and_true, and_self, cP_eq, cP_ne, cP_lt, cP_ge, cP_gt, cP_le, eL_i, eL_l, eL_r, eL_n, Option.toList_none, Option.toList_some, List.nil_append, List.cons_append, kkI, llI, nnI, rrI, jjI, kkJ, llJ, nnJ, rrJ, iiJ, zIIs, zJJs, nEF, nET, and_false, false_and, jmin, jmax, catS_n, catS_i, catS_r, catS_l, Nat.reduceLeDiff, j1eq1, n21, jt0, jt1, Bool.false_eq_true, Classical.not_not, true_or, or_true, false_or, or_false, true_imp_iff, false_imp_iff, not_true_eq_false, not_false_eq_true, jif0, jif1, jifb, ltT, ltF, leT, leF, eqT, eqF, jlt, jle, jeq, jlt0, jle0, jeq0, jge0, jgt0, jinB, jnat, clt, cle, ceq, cgt, cge, lI_add, lI_sub, lI_mul, jadd, jsub, jmul, jneg, jtol, b010, b011, pv_2t, Int.toNat_natCast, Option.some.injEq, exists_eq_left', if_true, if_false, ho.1, show t < zN h from by have := ho.2.1; omega, ho.2.2.2.2, tk, show to < zN h from by omega]
  -- NAMES are 0
  have tb0 : isTb (zsI h to 3 (iI 0)) to ((0 : Nat) : Int) F Wd := by
    obtain ⟨a1, a2, a3, a4, a5, a6, a7⟩ := htb
    refine ⟨a1, a2, a3, ⟨a4.1, a4.2.1, a4.2.2.1, fun i hi => by rw [zI_s, if_neg (by omega)]; exact a4.2.2.2 i hi⟩, ⟨a5.1, a5.2.1, a5.2.2.1, fun i hi => by rw [zI_s, if_neg (by omega)]; exact a5.2.2.2 i hi⟩, by rw [zI_s, if_pos ⟨rfl, rfl⟩]; rfl, by omega, by omega⟩
  have rows0 : ∀ k, k < 12 → rowP (zsI h to 3 (iI 0)) (to + 4 + 2 * k) 200 (V k) := fun k hk => (hrow k hk).keep hX (by omega) (by omega)
  have bn0 : bnS (zsI h to 3 (iI 0)) (t + 3) st tm := hb.keep hX (fun q z => by unfold bnA; omega)
  have ho0 : teO (zsI h to 3 (iI 0)) t to := ho
  have r10 : zI (zsI h to 3 (iI 0)) (t + 1) 4 = iI va := by rw [zI_s, if_neg (by omega)]; exact hva
  have tx0 : ∀ i, i < 540 → zI (zsI h to 3 (iI 0)) tx i = iI (B i) := fun i hi => by rw [zI_s, if_neg (by omega)]; exact htx.2.2.2.1 i hi
  have k10 : zK (zsI h to 3 (iI 0)) (t + 1) = 5 := hr1
  have kt0 : zK (zsI h to 3 (iI 0)) tx = 14 := htx.1
  have nt0 : tx < zN (zsI h to 3 (iI 0)) := htx.2.1
  have lt0 : zL (zsI h to 3 (iI 0)) tx = 540 := htx.2.2.1
  have fX : fr (teB t to) h (zsI h to 3 (iI 0)) := hX.wk fun q z => Or.inr (by unfold tbA; omega)
  generalize zsI h to 3 (iI 0) = g0 at *
  have n0 : t < zN g0 := by have := ho0.2.1; omega
  refine vs_ok 10 ?_
  rw [show ((gRes 95).drop 4).take 10 = [.aload 0, .iconst 0, .putfield 8050, .aload 0, .iconst 0, .putfield 8060, .aload 0, .getfield 8002, .aload 1, .iload 2] from rfl]
  simp (disch := omega) only [vs_iconst, vs_getfield, vs_putfield, vs_aload0, vs_aload1, vs_iload2, vs_nil, gv_0, gv_1, gv_2, gv_3, pv_0, pv_1, va_rf_s, Nat.reduceDiv, Nat.reduceMod, Nat.reduceAdd, Nat.reduceMul, Int.reduceToNat, true_and, and_true, and_self, cP_eq, cP_ne, cP_lt, cP_ge, cP_gt, cP_le, eL_i, eL_l, eL_r, eL_n, Option.toList_none, Option.toList_some, List.nil_append, List.cons_append, kkI, llI, nnI, rrI, jjI, kkJ, llJ, nnJ, rrJ, iiJ, zIIs, zJJs, nEF, nET, and_false, false_and, jmin, jmax, catS_n, catS_i, catS_r, catS_l, Nat.reduceLeDiff, j1eq1, n21, jt0, jt1, Bool.false_eq_true, Classical.not_not, true_or, or_true, false_or, or_false, true_imp_iff, false_imp_iff, not_true_eq_false, not_false_eq_true, jif0, jif1, jifb, ltT, ltF, leT, leF, eqT, eqF, jlt, jle, jeq, jlt0, jle0, jeq0, jge0, jgt0, jinB, jnat, clt, cle, ceq, cgt, cge, lI_add, lI_sub, lI_mul, jadd, jsub, jmul, jneg, jtol, b010, b011, pv_2t, Int.toNat_natCast, Option.some.injEq, exists_eq_left', if_true, if_false, ho0.1, n0, ho0.2.2.1]
  have f1 : fr (fun q => q = t) g0 (zsI (zsI g0 t 5 (iI 0)) t 6 (iI 0)) := (fr_I (S := fun q => q = t) rfl).tr (fr_I (S := fun q => q = t) rfl)
  have tb1' := tb0.keep4 f1 (fun q z => by omega)
  have rows1 : ∀ k, k < 12 → rowP (zsI (zsI g0 t 5 (iI 0)) t 6 (iI 0)) (to + 4 + 2 * k) 200 (V k) := fun k hk => (rows0 k hk).keep f1 (by omega) (by omega)
  have bn1 : bnS (zsI (zsI g0 t 5 (iI 0)) t 6 (iI 0)) (t + 3) st tm := bn0.keep f1 (fun q z => by unfold bnA; omega)
  have ho1 : teO (zsI (zsI g0 t 5 (iI 0)) t 6 (iI 0)) t to := ho0
  have r11 : zI (zsI (zsI g0 t 5 (iI 0)) t 6 (iI 0)) (t + 1) 4 = iI va := by rw [zI_s, if_neg (by omega), zI_s, if_neg (by omega)]; exact r10
  have tx1 : ∀ i, i < 540 → zI (zsI (zsI g0 t 5 (iI 0)) t 6 (iI 0)) tx i = iI (B i) := fun i hi => by rw [zI_s, if_neg (by omega), zI_s, if_neg (by omega)]; exact tx0 i hi
  have z51 : zI (zsI (zsI g0 t 5 (iI 0)) t 6 (iI 0)) t 5 = iI 0 := by rw [zI_s, if_neg (by omega), zI_s, if_pos ⟨rfl, rfl⟩]
  have fX1 : fr (teB t to) h (zsI (zsI g0 t 5 (iI 0)) t 6 (iI 0)) := fX.tr (f1.wk fun q z => Or.inl (by unfold teA; omega))
  have k11 : zK (zsI (zsI g0 t 5 (iI 0)) t 6 (iI 0)) (t + 1) = 5 := k10
  have kt1 : zK (zsI (zsI g0 t 5 (iI 0)) t 6 (iI 0)) tx = 14 := kt0
  have nt1 : tx < zN (zsI (zsI g0 t 5 (iI 0)) t 6 (iI 0)) := nt0
  have lt1 : zL (zsI (zsI g0 t 5 (iI 0)) t 6 (iI 0)) tx = 540 := lt0
  generalize zsI (zsI g0 t 5 (iI 0)) t 6 (iI 0) = g1 at *
  have n1 : t + 1 < zN g1 := by have := ho1.2.1; omega
  refine PW.iv rfl rfl rfl k11 n1 (le_b rfl) (le_b rfl) ?_
  refine t_start k11 n1 r11 ⟨kt1, nt1, lt1, tx1, htx.2.2.2.2⟩ hl fun g2 f2 rd2 => ⟨rfl, ⟨f2.2.2.1, rfl⟩, ?_⟩
  have tkp := ad_tk (B := B) (len := len) (fo := 0) (va := va) htx.2.2.2.2 hl (by omega) hvb
  have s2 : teS g2 t to tx len B (adF B len 0 va) st tm 0 F Wd V := by
    have hR2 := f2.2.2.2.2.2.2.2 t (by omega)
    exact ⟨⟨by rw [f2.1]; exact ho1.1, by rw [f2.2.2.1]; exact ho1.2.1, by rw [hR2]; exact ho1.2.2.1, by rw [hR2]; exact ho1.2.2.2.1, by rw [hR2]; exact ho1.2.2.2.2⟩, rd2, tkp, bn1.keep f2 (fun q z => by unfold bnA; omega), tb1'.keep4 f2 (fun q z => by omega), fun k hk => (rows1 k hk).keep f2 (by omega) (by omega), d1, d2, d3, wb⟩
  have fX2 : fr (teB t to) h g2 := fX1.tr (f2.wk fun q z => Or.inl (by unfold teA; omega))
  have z52 : zI g2 t 5 = iI 0 := by rw [f2.2.2.2.2.2.1 t (by omega)]; exact z51
  -- the end after a FAULT
  have pBad : ∀ (g : Hp) (i : Nat) (s : R4) (st : List RowVal) (tm : Bool) (nm : Nat) (F Wd : Nat → Int) (V : Nat → RowVal) (o3 : Option Value), i ≤ 12 → teS g t to tx len B s st tm nm F Wd V → fr (teB t to) h g → R.1 ≠ 0 → zI g t 5 = iI R.1 → zI g t 6 = iI R.2.1 → PW (D + 122) 95 43 [some (.ref t), some (.ref tx), some (.int (iI len)), some (.int (iI 1)), some (.int (iI i))] [] g Q := fun g i s st tm nm F Wd V o3 hi gs f hne g5 g6 => by
    have T := teF gs
    have p47 : PW (D + 122) 95 47 [some (.ref t), some (.ref tx), some (.int (iI len)), some (.int (iI 0)), some (.int (iI (i + 1 : Nat)))] [] g Q := by
      refine vs_ok 2 ?_
      rw [show ((gRes 95).drop 47).take 2 = [.iload 3, .ifCond .eq 57] from rfl]
      simp (disch := omega) only [vs_ifCond, vs_iload3, vs_nil, gv_0, gv_1, gv_2, gv_3, pv_0, pv_1, va_rf_s, Nat.reduceDiv, Nat.reduceMod, Nat.reduceAdd, Nat.reduceMul, Int.reduceToNat, true_and, and_true, and_self, cP_eq, cP_ne, cP_lt, cP_ge, cP_gt, cP_le, eL_i, eL_l, eL_r, eL_n, Option.toList_none, Option.toList_some, List.nil_append, List.cons_append, kkI, llI, nnI, rrI, jjI, kkJ, llJ, nnJ, rrJ, iiJ, zIIs, zJJs, nEF, nET, and_false, false_and, jmin, jmax, catS_n, catS_i, catS_r, catS_l, Nat.reduceLeDiff, j1eq1, n21, jt0, jt1, Bool.false_eq_true, Classical.not_not, true_or, or_true, false_or, or_false, true_imp_iff, false_imp_iff, not_true_eq_false, not_false_eq_true, jif0, jif1, jifb, ltT, ltF, leT, leF, eqT, eqF, jlt, jle, jeq, jlt0, jle0, jeq0, jge0, jgt0, jinB, jnat, clt, cle, ceq, cgt, cge, lI_add, lI_sub, lI_mul, jadd, jsub, jmul, jneg, jtol, b010, b011, pv_2t, Int.toNat_natCast, Option.some.injEq, exists_eq_left', if_true, if_false]
      refine vs_ok 3 ?_
      rw [show ((gRes 95).drop 57).take 3 = [.aload 0, .getfield 8050, .ireturn] from rfl]
      simp (disch := omega) only [vs_getfield, vs_ireturn, vs_aload0, vs_nil, gv_0, gv_1, gv_2, gv_3, pv_0, pv_1, va_rf_s, Nat.reduceDiv, Nat.reduceMod, Nat.reduceAdd, Nat.reduceMul, Int.reduceToNat, true_and, and_true, and_self, cP_eq, cP_ne, cP_lt, cP_ge, cP_gt, cP_le, eL_i, eL_l, eL_r, eL_n, Option.toList_none, Option.toList_some, List.nil_append, List.cons_append, kkI, llI, nnI, rrI, jjI, kkJ, llJ, nnJ, rrJ, iiJ, zIIs, zJJs, nEF, nET, and_false, false_and, jmin, jmax, catS_n, catS_i, catS_r, catS_l, Nat.reduceLeDiff, j1eq1, n21, jt0, jt1, Bool.false_eq_true, Classical.not_not, true_or, or_true, false_or, or_false, true_imp_iff, false_imp_iff, not_true_eq_false, not_false_eq_true, jif0, jif1, jifb, ltT, ltF, leT, leF, eqT, eqF, jlt, jle, jeq, jlt0, jle0, jeq0, jge0, jgt0, jinB, jnat, clt, cle, ceq, cgt, cge, lI_add, lI_sub, lI_mul, jadd, jsub, jmul, jneg, jtol, b010, b011, pv_2t, Int.toNat_natCast, Option.some.injEq, exists_eq_left', if_true, if_false, T, g5, show gRc 95 = 1 from rfl]
      exact hF hne g s st tm nm F Wd V f gs g6
    refine vs_ok 3 ?_
    rw [show ((gRes 95).drop 43).take 3 = [.iconst 0, .istore 3, .iinc 4 1] from rfl]
    simp (disch := omega) only [vs_iconst, vs_istore3n, vs_istore3i, vs_istore3r, vs_istore3l, vs_iinc4n, vs_iinc4i, vs_iinc4r, vs_iinc4l, vs_nil, gv_0, gv_1, gv_2, gv_3, pv_0, pv_1, va_rf_s, Nat.reduceDiv, Nat.reduceMod, Nat.reduceAdd, Nat.reduceMul, Int.reduceToNat, true_and, and_true, and_self, cP_eq, cP_ne, cP_lt, cP_ge, cP_gt, cP_le, eL_i, eL_l, eL_r, eL_n, Option.toList_none, Option.toList_some, List.nil_append, List.cons_append, kkI, llI, nnI, rrI, jjI, kkJ, llJ, nnJ, rrJ, iiJ, zIIs, zJJs, nEF, nET, and_false, false_and, jmin, jmax, catS_n, catS_i, catS_r, catS_l, Nat.reduceLeDiff, j1eq1, n21, jt0, jt1, Bool.false_eq_true, Classical.not_not, true_or, or_true, false_or, or_false, true_imp_iff, false_imp_iff, not_true_eq_false, not_false_eq_true, jif0, jif1, jifb, ltT, ltF, leT, leF, eqT, eqF, jlt, jle, jeq, jlt0, jle0, jeq0, jge0, jgt0, jinB, jnat, clt, cle, ceq, cgt, cge, lI_add, lI_sub, lI_mul, jadd, jsub, jmul, jneg, jtol, b010, b011, pv_2t, Int.toNat_natCast, Option.some.injEq, exists_eq_left', if_true, if_false]
    refine vs_ok 1 ?_
    rw [show ((gRes 95).drop 46).take 1 = [.goto 19] from rfl]
    simp (disch := omega) only [vs_goto, vs_nil, gv_0, gv_1, gv_2, gv_3, pv_0, pv_1, va_rf_s, Nat.reduceDiv, Nat.reduceMod, Nat.reduceAdd, Nat.reduceMul, Int.reduceToNat, true_and, and_true, and_self, cP_eq, cP_ne, cP_lt, cP_ge, cP_gt, cP_le, eL_i, eL_l, eL_r, eL_n, Option.toList_none, Option.toList_some, List.nil_append, List.cons_append, kkI, llI, nnI, rrI, jjI, kkJ, llJ, nnJ, rrJ, iiJ, zIIs, zJJs, nEF, nET, and_false, false_and, jmin, jmax, catS_n, catS_i, catS_r, catS_l, Nat.reduceLeDiff, j1eq1, n21, jt0, jt1, Bool.false_eq_true, Classical.not_not, true_or, or_true, false_or, or_false, true_imp_iff, false_imp_iff, not_true_eq_false, not_false_eq_true, jif0, jif1, jifb, ltT, ltF, leT, leF, eqT, eqF, jlt, jle, jeq, jlt0, jle0, jeq0, jge0, jgt0, jinB, jnat, clt, cle, ceq, cgt, cge, lI_add, lI_sub, lI_mul, jadd, jsub, jmul, jneg, jtol, b010, b011, pv_2t, Int.toNat_natCast, Option.some.injEq, exists_eq_left', if_true, if_false]
    by_cases c : i + 1 > 12
    · refine vs_ok 3 ?_
      rw [show ((gRes 95).drop 19).take 3 = [.iload 4, .iconst 12, .if_icmp .gt 47] from rfl]
      simp (disch := omega) only [vs_iconst, vs_if_icmp, vs_iload4, vs_nil, gv_0, gv_1, gv_2, gv_3, pv_0, pv_1, va_rf_s, Nat.reduceDiv, Nat.reduceMod, Nat.reduceAdd, Nat.reduceMul, Int.reduceToNat, true_and, and_true, and_self, cP_eq, cP_ne, cP_lt, cP_ge, cP_gt, cP_le, eL_i, eL_l, eL_r, eL_n, Option.toList_none, Option.toList_some, List.nil_append, List.cons_append, kkI, llI, nnI, rrI, jjI, kkJ, llJ, nnJ, rrJ, iiJ, zIIs, zJJs, nEF, nET, and_false, false_and, jmin, jmax, catS_n, catS_i, catS_r, catS_l, Nat.reduceLeDiff, j1eq1, n21, jt0, jt1, Bool.false_eq_true, Classical.not_not, true_or, or_true, false_or, or_false, true_imp_iff, false_imp_iff, not_true_eq_false, not_false_eq_true, jif0, jif1, jifb, ltT, ltF, leT, leF, eqT, eqF, jlt, jle, jeq, jlt0, jle0, jeq0, jge0, jgt0, jinB, jnat, clt, cle, ceq, cgt, cge, lI_add, lI_sub, lI_mul, jadd, jsub, jmul, jneg, jtol, b010, b011, pv_2t, Int.toNat_natCast, Option.some.injEq, exists_eq_left', if_true, if_false]
      exact p47
    · refine vs_ok 10 ?_
      rw [show ((gRes 95).drop 19).take 10 = [.iload 4, .iconst 12, .if_icmp .gt 47, .iload 3, .ifCond .eq 47, .aload 0, .getfield 8002, .getfield 5030, .ifCond .eq 47, .aload 0] from rfl]
      simp (disch := omega) only [vs_iconst, vs_if_icmp, vs_ifCond, vs_getfield, vs_aload0, vs_iload3, vs_iload4, vs_nil, gv_0, gv_1, gv_2, gv_3, pv_0, pv_1, va_rf_s, Nat.reduceDiv, Nat.reduceMod, Nat.reduceAdd, Nat.reduceMul, Int.reduceToNat, true_and, and_true, and_self, cP_eq, cP_ne, cP_lt, cP_ge, cP_gt, cP_le, eL_i, eL_l, eL_r, eL_n, Option.toList_none, Option.toList_some, List.nil_append, List.cons_append, kkI, llI, nnI, rrI, jjI, kkJ, llJ, nnJ, rrJ, iiJ, zIIs, zJJs, nEF, nET, and_false, false_and, jmin, jmax, catS_n, catS_i, catS_r, catS_l, Nat.reduceLeDiff, j1eq1, n21, jt0, jt1, Bool.false_eq_true, Classical.not_not, true_or, or_true, false_or, or_false, true_imp_iff, false_imp_iff, not_true_eq_false, not_false_eq_true, jif0, jif1, jifb, ltT, ltF, leT, leF, eqT, eqF, jlt, jle, jeq, jlt0, jle0, jeq0, jge0, jgt0, jinB, jnat, clt, cle, ceq, cgt, cge, lI_add, lI_sub, lI_mul, jadd, jsub, jmul, jneg, jtol, b010, b011, pv_2t, Int.toNat_natCast, Option.some.injEq, exists_eq_left', if_true, if_false]
      exact p47
  have lp : ∀ (k i nm : Nat) (F Wd : Nat → Int) (V : Nat → RowVal) (s : R4) (g : Hp) (st : List RowVal) (tm : Bool), k + i = 13 → i = nm → tlS B len k nm F Wd V s = some R → (∀ k, k < nm → gV (V k)) → teS g t to tx len B s st tm nm F Wd V → zI g t 5 = iI 0 → fr (teB t to) h g → PW (D + 122) 95 19 [some (.ref t), some (.ref tx), some (.int (iI len)), some (.int (iI 1)), some (.int (iI i))] [] g Q := by
    intro k
    induction k with
    | zero =>
      intro i nm F Wd V s g st tm hk hi hE
      cases hE
    | succ k ih =>
      intro i nm F Wd V s g st tm hk hi hE hV gs g5 f
      have T := teF gs
      obtain ⟨-, k4, k5, k6, k7⟩ := gs.2.2.1
      unfold tlS at hE
      refine vs_ok 10 ?_
      rw [show ((gRes 95).drop 19).take 10 = [.iload 4, .iconst 12, .if_icmp .gt 47, .iload 3, .ifCond .eq 47, .aload 0, .getfield 8002, .getfield 5030, .ifCond .eq 47, .aload 0] from rfl]
      simp (disch := omega) only [vs_iconst, vs_if_icmp, vs_ifCond, vs_getfield, vs_aload0, vs_iload3, vs_iload4, vs_nil, gv_0, gv_1, gv_2, gv_3, pv_0, pv_1, va_rf_s, Nat.reduceDiv, Nat.reduceMod, Nat.reduceAdd, Nat.reduceMul, Int.reduceToNat, true_and, and_true, and_self, cP_eq, cP_ne, cP_lt, cP_ge, cP_gt, cP_le, eL_i, eL_l, eL_r, eL_n, Option.toList_none, Option.toList_some, List.nil_append, List.cons_append, kkI, llI, nnI, rrI, jjI, kkJ, llJ, nnJ, rrJ, iiJ, zIIs, zJJs, nEF, nET, and_false, false_and, jmin, jmax, catS_n, catS_i, catS_r, catS_l, Nat.reduceLeDiff, j1eq1, n21, jt0, jt1, Bool.false_eq_true, Classical.not_not, true_or, or_true, false_or, or_false, true_imp_iff, false_imp_iff, not_true_eq_false, not_false_eq_true, jif0, jif1, jifb, ltT, ltF, leT, leF, eqT, eqF, jlt, jle, jeq, jlt0, jle0, jeq0, jge0, jgt0, jinB, jnat, clt, cle, ceq, cgt, cge, lI_add, lI_sub, lI_mul, jadd, jsub, jmul, jneg, jtol, b010, b011, pv_2t, Int.toNat_natCast, Option.some.injEq, exists_eq_left', if_true, if_false, T]
      by_cases c0 : s.2.1 = 0
      · rw [if_pos c0] at hE
        have p47 : PW (D + 122) 95 47 [some (.ref t), some (.ref tx), some (.int (iI len)), some (.int (iI 1)), some (.int (iI i))] [] g Q := by
          refine vs_ok 2 ?_
          rw [show ((gRes 95).drop 47).take 2 = [.iload 3, .ifCond .eq 57] from rfl]
          simp (disch := omega) only [vs_ifCond, vs_iload3, vs_nil, gv_0, gv_1, gv_2, gv_3, pv_0, pv_1, va_rf_s, Nat.reduceDiv, Nat.reduceMod, Nat.reduceAdd, Nat.reduceMul, Int.reduceToNat, true_and, and_true, and_self, cP_eq, cP_ne, cP_lt, cP_ge, cP_gt, cP_le, eL_i, eL_l, eL_r, eL_n, Option.toList_none, Option.toList_some, List.nil_append, List.cons_append, kkI, llI, nnI, rrI, jjI, kkJ, llJ, nnJ, rrJ, iiJ, zIIs, zJJs, nEF, nET, and_false, false_and, jmin, jmax, catS_n, catS_i, catS_r, catS_l, Nat.reduceLeDiff, j1eq1, n21, jt0, jt1, Bool.false_eq_true, Classical.not_not, true_or, or_true, false_or, or_false, true_imp_iff, false_imp_iff, not_true_eq_false, not_false_eq_true, jif0, jif1, jifb, ltT, ltF, leT, leF, eqT, eqF, jlt, jle, jeq, jlt0, jle0, jeq0, jge0, jgt0, jinB, jnat, clt, cle, ceq, cgt, cge, lI_add, lI_sub, lI_mul, jadd, jsub, jmul, jneg, jtol, b010, b011, pv_2t, Int.toNat_natCast, Option.some.injEq, exists_eq_left', if_true, if_false]
          refine vs_ok 2 ?_
          rw [show ((gRes 95).drop 49).take 2 = [.aload 0, .getfield 8002] from rfl]
          simp (disch := omega) only [vs_getfield, vs_aload0, vs_nil, gv_0, gv_1, gv_2, gv_3, pv_0, pv_1, va_rf_s, Nat.reduceDiv, Nat.reduceMod, Nat.reduceAdd, Nat.reduceMul, Int.reduceToNat, true_and, and_true, and_self, cP_eq, cP_ne, cP_lt, cP_ge, cP_gt, cP_le, eL_i, eL_l, eL_r, eL_n, Option.toList_none, Option.toList_some, List.nil_append, List.cons_append, kkI, llI, nnI, rrI, jjI, kkJ, llJ, nnJ, rrJ, iiJ, zIIs, zJJs, nEF, nET, and_false, false_and, jmin, jmax, catS_n, catS_i, catS_r, catS_l, Nat.reduceLeDiff, j1eq1, n21, jt0, jt1, Bool.false_eq_true, Classical.not_not, true_or, or_true, false_or, or_false, true_imp_iff, false_imp_iff, not_true_eq_false, not_false_eq_true, jif0, jif1, jifb, ltT, ltF, leT, leF, eqT, eqF, jlt, jle, jeq, jlt0, jle0, jeq0, jge0, jgt0, jinB, jnat, clt, cle, ceq, cgt, cge, lI_add, lI_sub, lI_mul, jadd, jsub, jmul, jneg, jtol, b010, b011, pv_2t, Int.toNat_natCast, Option.some.injEq, exists_eq_left', if_true, if_false, T]
          refine PW.iv rfl rfl rfl T.2.1.1 T.2.1.2.1 (le_b rfl) (le_b rfl) ?_
          refine t_isTooLong gs.2.1 ⟨rfl, ⟨rfl, rfl⟩, ?_⟩
          by_cases c5 : 500 < len
          · rw [if_pos c5] at hE
            have hE : R = (1, s.2.2.2, nm, F, Wd, V) := by simpa using hE.symm
            refine vs_ok 1 ?_
            rw [show ((gRes 95).drop 52).take 1 = [.ifCond .eq 57] from rfl]
            simp (disch := omega) only [vs_ifCond, vs_nil, gv_0, gv_1, gv_2, gv_3, pv_0, pv_1, va_rf_s, Nat.reduceDiv, Nat.reduceMod, Nat.reduceAdd, Nat.reduceMul, Int.reduceToNat, true_and, and_true, and_self, cP_eq, cP_ne, cP_lt, cP_ge, cP_gt, cP_le, eL_i, eL_l, eL_r, eL_n, Option.toList_none, Option.toList_some, List.nil_append, List.cons_append, kkI, llI, nnI, rrI, jjI, kkJ, llJ, nnJ, rrJ, iiJ, zIIs, zJJs, nEF, nET, and_false, false_and, jmin, jmax, catS_n, catS_i, catS_r, catS_l, Nat.reduceLeDiff, j1eq1, n21, jt0, jt1, Bool.false_eq_true, Classical.not_not, true_or, or_true, false_or, or_false, true_imp_iff, false_imp_iff, not_true_eq_false, not_false_eq_true, jif0, jif1, jifb, ltT, ltF, leT, leF, eqT, eqF, jlt, jle, jeq, jlt0, jle0, jeq0, jge0, jgt0, jinB, jnat, clt, cle, ceq, cgt, cge, lI_add, lI_sub, lI_mul, jadd, jsub, jmul, jneg, jtol, b010, b011, pv_2t, Int.toNat_natCast, Option.some.injEq, exists_eq_left', if_true, if_false, if_pos c5, i1e0]
            refine vs_ok 2 ?_
            rw [show ((gRes 95).drop 53).take 2 = [.aload 0, .iconst 1] from rfl]
            simp (disch := omega) only [vs_iconst, vs_aload0, vs_nil, gv_0, gv_1, gv_2, gv_3, pv_0, pv_1, va_rf_s, Nat.reduceDiv, Nat.reduceMod, Nat.reduceAdd, Nat.reduceMul, Int.reduceToNat, true_and, and_true, and_self, cP_eq, cP_ne, cP_lt, cP_ge, cP_gt, cP_le, eL_i, eL_l, eL_r, eL_n, Option.toList_none, Option.toList_some, List.nil_append, List.cons_append, kkI, llI, nnI, rrI, jjI, kkJ, llJ, nnJ, rrJ, iiJ, zIIs, zJJs, nEF, nET, and_false, false_and, jmin, jmax, catS_n, catS_i, catS_r, catS_l, Nat.reduceLeDiff, j1eq1, n21, jt0, jt1, Bool.false_eq_true, Classical.not_not, true_or, or_true, false_or, or_false, true_imp_iff, false_imp_iff, not_true_eq_false, not_false_eq_true, jif0, jif1, jifb, ltT, ltF, leT, leF, eqT, eqF, jlt, jle, jeq, jlt0, jle0, jeq0, jge0, jgt0, jinB, jnat, clt, cle, ceq, cgt, cge, lI_add, lI_sub, lI_mul, jadd, jsub, jmul, jneg, jtol, b010, b011, pv_2t, Int.toNat_natCast, Option.some.injEq, exists_eq_left', if_true, if_false]
            refine PW.iv rfl rfl rfl T.1.1 T.1.2.1 (le_b rfl) (le_b rfl) ?_
            refine t_failHere gs fun g4 f4 gs4 y5 y6 => ⟨rfl, ⟨f4.2.2.1, rfl⟩, ?_⟩
            have T4 := teF gs4
            refine vs_ok 4 ?_
            rw [show ((gRes 95).drop 56).take 4 = [.pop, .aload 0, .getfield 8050, .ireturn] from rfl]
            simp (disch := omega) only [vs_getfield, vs_ireturn, vs_aload0, vs_nil, gv_0, gv_1, gv_2, gv_3, pv_0, pv_1, va_rf_s, vs_popi, vs_popr, Nat.reduceDiv, Nat.reduceMod, Nat.reduceAdd, Nat.reduceMul, Int.reduceToNat, true_and, and_true, and_self, cP_eq, cP_ne, cP_lt, cP_ge, cP_gt, cP_le, eL_i, eL_l, eL_r, eL_n, Option.toList_none, Option.toList_some, List.nil_append, List.cons_append, kkI, llI, nnI, rrI, jjI, kkJ, llJ, nnJ, rrJ, iiJ, zIIs, zJJs, nEF, nET, and_false, false_and, jmin, jmax, catS_n, catS_i, catS_r, catS_l, Nat.reduceLeDiff, j1eq1, n21, jt0, jt1, Bool.false_eq_true, Classical.not_not, true_or, or_true, false_or, or_false, true_imp_iff, false_imp_iff, not_true_eq_false, not_false_eq_true, jif0, jif1, jifb, ltT, ltF, leT, leF, eqT, eqF, jlt, jle, jeq, jlt0, jle0, jeq0, jge0, jgt0, jinB, jnat, clt, cle, ceq, cgt, cge, lI_add, lI_sub, lI_mul, jadd, jsub, jmul, jneg, jtol, b010, b011, pv_2t, Int.toNat_natCast, Option.some.injEq, exists_eq_left', if_true, if_false, T4, y5, show gRc 95 = 1 from rfl]
            rw [hE] at hF
            exact hF (by show (1 : Int) ≠ 0; omega) g4 _ _ _ _ _ _ _ (f.tr (toB f4)) gs4 y6
          · rw [if_neg c5] at hE
            have hE : R = (0, 0, nm, F, Wd, V) := by simpa using hE.symm
            refine vs_ok 1 ?_
            rw [show ((gRes 95).drop 52).take 1 = [.ifCond .eq 57] from rfl]
            simp (disch := omega) only [vs_ifCond, vs_nil, gv_0, gv_1, gv_2, gv_3, pv_0, pv_1, va_rf_s, Nat.reduceDiv, Nat.reduceMod, Nat.reduceAdd, Nat.reduceMul, Int.reduceToNat, true_and, and_true, and_self, cP_eq, cP_ne, cP_lt, cP_ge, cP_gt, cP_le, eL_i, eL_l, eL_r, eL_n, Option.toList_none, Option.toList_some, List.nil_append, List.cons_append, kkI, llI, nnI, rrI, jjI, kkJ, llJ, nnJ, rrJ, iiJ, zIIs, zJJs, nEF, nET, and_false, false_and, jmin, jmax, catS_n, catS_i, catS_r, catS_l, Nat.reduceLeDiff, j1eq1, n21, jt0, jt1, Bool.false_eq_true, Classical.not_not, true_or, or_true, false_or, or_false, true_imp_iff, false_imp_iff, not_true_eq_false, not_false_eq_true, jif0, jif1, jifb, ltT, ltF, leT, leF, eqT, eqF, jlt, jle, jeq, jlt0, jle0, jeq0, jge0, jgt0, jinB, jnat, clt, cle, ceq, cgt, cge, lI_add, lI_sub, lI_mul, jadd, jsub, jmul, jneg, jtol, b010, b011, pv_2t, Int.toNat_natCast, Option.some.injEq, exists_eq_left', if_true, if_false, if_neg c5]
            refine vs_ok 3 ?_
            rw [show ((gRes 95).drop 57).take 3 = [.aload 0, .getfield 8050, .ireturn] from rfl]
            simp (disch := omega) only [vs_getfield, vs_ireturn, vs_aload0, vs_nil, gv_0, gv_1, gv_2, gv_3, pv_0, pv_1, va_rf_s, Nat.reduceDiv, Nat.reduceMod, Nat.reduceAdd, Nat.reduceMul, Int.reduceToNat, true_and, and_true, and_self, cP_eq, cP_ne, cP_lt, cP_ge, cP_gt, cP_le, eL_i, eL_l, eL_r, eL_n, Option.toList_none, Option.toList_some, List.nil_append, List.cons_append, kkI, llI, nnI, rrI, jjI, kkJ, llJ, nnJ, rrJ, iiJ, zIIs, zJJs, nEF, nET, and_false, false_and, jmin, jmax, catS_n, catS_i, catS_r, catS_l, Nat.reduceLeDiff, j1eq1, n21, jt0, jt1, Bool.false_eq_true, Classical.not_not, true_or, or_true, false_or, or_false, true_imp_iff, false_imp_iff, not_true_eq_false, not_false_eq_true, jif0, jif1, jifb, ltT, ltF, leT, leF, eqT, eqF, jlt, jle, jeq, jlt0, jle0, jeq0, jge0, jgt0, jinB, jnat, clt, cle, ceq, cgt, cge, lI_add, lI_sub, lI_mul, jadd, jsub, jmul, jneg, jtol, b010, b011, pv_2t, Int.toNat_natCast, Option.some.injEq, exists_eq_left', if_true, if_false, T, g5, show gRc 95 = 1 from rfl]
            rw [hE] at hT
            exact hT rfl g s st tm f gs hV
        exact ⟨fun _ => p47, fun y => absurd c0 y⟩
      · rw [if_neg c0] at hE
        refine ⟨fun y => absurd y c0, fun _ => ?_⟩
        refine PW.iv rfl rfl rfl T.1.1 T.1.2.1 (le_b rfl) (le_b rfl) ?_
        refine t_readHead (D := D + 113) gs rfl (fun z hn12 hw g1 f1 e3 e4 e5 s1 => ⟨rfl, ⟨f1.2.2.1, rfl⟩, ?_⟩) (fun z g1 s' f1 s1 y5 y6 => ⟨rfl, ⟨f1.2.2.1, rfl⟩, ?_⟩)
        · rw [if_neg (by rw [z]; decide)] at hE
          have T1 := teF s1
          have g15 : zI g1 t 5 = iI 0 := by rw [e5]; exact g5
          refine vs_ok 1 ?_
          rw [show ((gRes 95).drop 30).take 1 = [.ifCond .eq 43] from rfl]
          simp (disch := omega) only [vs_ifCond, vs_nil, gv_0, gv_1, gv_2, gv_3, pv_0, pv_1, va_rf_s, Nat.reduceDiv, Nat.reduceMod, Nat.reduceAdd, Nat.reduceMul, Int.reduceToNat, true_and, and_true, and_self, cP_eq, cP_ne, cP_lt, cP_ge, cP_gt, cP_le, eL_i, eL_l, eL_r, eL_n, Option.toList_none, Option.toList_some, List.nil_append, List.cons_append, kkI, llI, nnI, rrI, jjI, kkJ, llJ, nnJ, rrJ, iiJ, zIIs, zJJs, nEF, nET, and_false, false_and, jmin, jmax, catS_n, catS_i, catS_r, catS_l, Nat.reduceLeDiff, j1eq1, n21, jt0, jt1, Bool.false_eq_true, Classical.not_not, true_or, or_true, false_or, or_false, true_imp_iff, false_imp_iff, not_true_eq_false, not_false_eq_true, jif0, jif1, jifb, ltT, ltF, leT, leF, eqT, eqF, jlt, jle, jeq, jlt0, jle0, jeq0, jge0, jgt0, jinB, jnat, clt, cle, ceq, cgt, cge, lI_add, lI_sub, lI_mul, jadd, jsub, jmul, jneg, jtol, b010, b011, pv_2t, Int.toNat_natCast, Option.some.injEq, exists_eq_left', if_true, if_false]
          by_cases cd : (hdS B len Wd nm s).2.2.2.2.1 = true
          · rw [if_pos cd] at hE e3
            refine vs_ok 3 ?_
            rw [show ((gRes 95).drop 31).take 3 = [.aload 0, .getfield 8033, .ifCond .eq 38] from rfl]
            simp (disch := omega) only [vs_ifCond, vs_getfield, vs_aload0, vs_nil, gv_0, gv_1, gv_2, gv_3, pv_0, pv_1, va_rf_s, Nat.reduceDiv, Nat.reduceMod, Nat.reduceAdd, Nat.reduceMul, Int.reduceToNat, true_and, and_true, and_self, cP_eq, cP_ne, cP_lt, cP_ge, cP_gt, cP_le, eL_i, eL_l, eL_r, eL_n, Option.toList_none, Option.toList_some, List.nil_append, List.cons_append, kkI, llI, nnI, rrI, jjI, kkJ, llJ, nnJ, rrJ, iiJ, zIIs, zJJs, nEF, nET, and_false, false_and, jmin, jmax, catS_n, catS_i, catS_r, catS_l, Nat.reduceLeDiff, j1eq1, n21, jt0, jt1, Bool.false_eq_true, Classical.not_not, true_or, or_true, false_or, or_false, true_imp_iff, false_imp_iff, not_true_eq_false, not_false_eq_true, jif0, jif1, jifb, ltT, ltF, leT, leF, eqT, eqF, jlt, jle, jeq, jlt0, jle0, jeq0, jge0, jgt0, jinB, jnat, clt, cle, ceq, cgt, cge, lI_add, lI_sub, lI_mul, jadd, jsub, jmul, jneg, jtol, b010, b011, pv_2t, Int.toNat_natCast, Option.some.injEq, exists_eq_left', if_true, if_false, T1, e3, i1e0]
            refine vs_ok 1 ?_
            rw [show ((gRes 95).drop 34).take 1 = [.aload 0] from rfl]
            simp (disch := omega) only [vs_aload0, vs_nil, gv_0, gv_1, gv_2, gv_3, pv_0, pv_1, va_rf_s, Nat.reduceDiv, Nat.reduceMod, Nat.reduceAdd, Nat.reduceMul, Int.reduceToNat, true_and, and_true, and_self, cP_eq, cP_ne, cP_lt, cP_ge, cP_gt, cP_le, eL_i, eL_l, eL_r, eL_n, Option.toList_none, Option.toList_some, List.nil_append, List.cons_append, kkI, llI, nnI, rrI, jjI, kkJ, llJ, nnJ, rrJ, iiJ, zIIs, zJJs, nEF, nET, and_false, false_and, jmin, jmax, catS_n, catS_i, catS_r, catS_l, Nat.reduceLeDiff, j1eq1, n21, jt0, jt1, Bool.false_eq_true, Classical.not_not, true_or, or_true, false_or, or_false, true_imp_iff, false_imp_iff, not_true_eq_false, not_false_eq_true, jif0, jif1, jifb, ltT, ltF, leT, leF, eqT, eqF, jlt, jle, jeq, jlt0, jle0, jeq0, jge0, jgt0, jinB, jnat, clt, cle, ceq, cgt, cge, lI_add, lI_sub, lI_mul, jadd, jsub, jmul, jneg, jtol, b010, b011, pv_2t, Int.toNat_natCast, Option.some.injEq, exists_eq_left', if_true, if_false]
            refine PW.iv rfl rfl rfl T1.1.1 T1.1.2.1 (le_b rfl) (le_b rfl) ?_
            refine t_readFaces (D := D + 113) s1 hn12 hw e4 rfl (fun z2 hn hg g2 f2 e2 s2 => ⟨rfl, ⟨f2.2.2.1, rfl⟩, ?_⟩) (fun z2 g2 s2' v' f2 s2 y5 y6 => ⟨rfl, ⟨f2.2.2.1, rfl⟩, ?_⟩)
            · rw [if_neg (by rw [z2]; decide)] at hE
              refine vs_ok 1 ?_
              rw [show ((gRes 95).drop 36).take 1 = [.ifCond .eq 43] from rfl]
              simp (disch := omega) only [vs_ifCond, vs_nil, gv_0, gv_1, gv_2, gv_3, pv_0, pv_1, va_rf_s, Nat.reduceDiv, Nat.reduceMod, Nat.reduceAdd, Nat.reduceMul, Int.reduceToNat, true_and, and_true, and_self, cP_eq, cP_ne, cP_lt, cP_ge, cP_gt, cP_le, eL_i, eL_l, eL_r, eL_n, Option.toList_none, Option.toList_some, List.nil_append, List.cons_append, kkI, llI, nnI, rrI, jjI, kkJ, llJ, nnJ, rrJ, iiJ, zIIs, zJJs, nEF, nET, and_false, false_and, jmin, jmax, catS_n, catS_i, catS_r, catS_l, Nat.reduceLeDiff, j1eq1, n21, jt0, jt1, Bool.false_eq_true, Classical.not_not, true_or, or_true, false_or, or_false, true_imp_iff, false_imp_iff, not_true_eq_false, not_false_eq_true, jif0, jif1, jifb, ltT, ltF, leT, leF, eqT, eqF, jlt, jle, jeq, jlt0, jle0, jeq0, jge0, jgt0, jinB, jnat, clt, cle, ceq, cgt, cge, lI_add, lI_sub, lI_mul, jadd, jsub, jmul, jneg, jtol, b010, b011, pv_2t, Int.toNat_natCast, Option.some.injEq, exists_eq_left', if_true, if_false]
              refine vs_ok 1 ?_
              rw [show ((gRes 95).drop 37).take 1 = [.goto 41] from rfl]
              simp (disch := omega) only [vs_goto, vs_nil, gv_0, gv_1, gv_2, gv_3, pv_0, pv_1, va_rf_s, Nat.reduceDiv, Nat.reduceMod, Nat.reduceAdd, Nat.reduceMul, Int.reduceToNat, true_and, and_true, and_self, cP_eq, cP_ne, cP_lt, cP_ge, cP_gt, cP_le, eL_i, eL_l, eL_r, eL_n, Option.toList_none, Option.toList_some, List.nil_append, List.cons_append, kkI, llI, nnI, rrI, jjI, kkJ, llJ, nnJ, rrJ, iiJ, zIIs, zJJs, nEF, nET, and_false, false_and, jmin, jmax, catS_n, catS_i, catS_r, catS_l, Nat.reduceLeDiff, j1eq1, n21, jt0, jt1, Bool.false_eq_true, Classical.not_not, true_or, or_true, false_or, or_false, true_imp_iff, false_imp_iff, not_true_eq_false, not_false_eq_true, jif0, jif1, jifb, ltT, ltF, leT, leF, eqT, eqF, jlt, jle, jeq, jlt0, jle0, jeq0, jge0, jgt0, jinB, jnat, clt, cle, ceq, cgt, cge, lI_add, lI_sub, lI_mul, jadd, jsub, jmul, jneg, jtol, b010, b011, pv_2t, Int.toNat_natCast, Option.some.injEq, exists_eq_left', if_true, if_false]
              refine vs_ok 2 ?_
              rw [show ((gRes 95).drop 41).take 2 = [.iconst 1, .goto 44] from rfl]
              simp (disch := omega) only [vs_iconst, vs_goto, vs_nil, gv_0, gv_1, gv_2, gv_3, pv_0, pv_1, va_rf_s, Nat.reduceDiv, Nat.reduceMod, Nat.reduceAdd, Nat.reduceMul, Int.reduceToNat, true_and, and_true, and_self, cP_eq, cP_ne, cP_lt, cP_ge, cP_gt, cP_le, eL_i, eL_l, eL_r, eL_n, Option.toList_none, Option.toList_some, List.nil_append, List.cons_append, kkI, llI, nnI, rrI, jjI, kkJ, llJ, nnJ, rrJ, iiJ, zIIs, zJJs, nEF, nET, and_false, false_and, jmin, jmax, catS_n, catS_i, catS_r, catS_l, Nat.reduceLeDiff, j1eq1, n21, jt0, jt1, Bool.false_eq_true, Classical.not_not, true_or, or_true, false_or, or_false, true_imp_iff, false_imp_iff, not_true_eq_false, not_false_eq_true, jif0, jif1, jifb, ltT, ltF, leT, leF, eqT, eqF, jlt, jle, jeq, jlt0, jle0, jeq0, jge0, jgt0, jinB, jnat, clt, cle, ceq, cgt, cge, lI_add, lI_sub, lI_mul, jadd, jsub, jmul, jneg, jtol, b010, b011, pv_2t, Int.toNat_natCast, Option.some.injEq, exists_eq_left', if_true, if_false]
              refine vs_ok 3 ?_
              rw [show ((gRes 95).drop 44).take 3 = [.istore 3, .iinc 4 1, .goto 19] from rfl]
              simp (disch := omega) only [vs_goto, vs_istore3n, vs_istore3i, vs_istore3r, vs_istore3l, vs_iinc4n, vs_iinc4i, vs_iinc4r, vs_iinc4l, vs_nil, gv_0, gv_1, gv_2, gv_3, pv_0, pv_1, va_rf_s, Nat.reduceDiv, Nat.reduceMod, Nat.reduceAdd, Nat.reduceMul, Int.reduceToNat, true_and, and_true, and_self, cP_eq, cP_ne, cP_lt, cP_ge, cP_gt, cP_le, eL_i, eL_l, eL_r, eL_n, Option.toList_none, Option.toList_some, List.nil_append, List.cons_append, kkI, llI, nnI, rrI, jjI, kkJ, llJ, nnJ, rrJ, iiJ, zIIs, zJJs, nEF, nET, and_false, false_and, jmin, jmax, catS_n, catS_i, catS_r, catS_l, Nat.reduceLeDiff, j1eq1, n21, jt0, jt1, Bool.false_eq_true, Classical.not_not, true_or, or_true, false_or, or_false, true_imp_iff, false_imp_iff, not_true_eq_false, not_false_eq_true, jif0, jif1, jifb, ltT, ltF, leT, leF, eqT, eqF, jlt, jle, jeq, jlt0, jle0, jeq0, jge0, jgt0, jinB, jnat, clt, cle, ceq, cgt, cge, lI_add, lI_sub, lI_mul, jadd, jsub, jmul, jneg, jtol, b010, b011, pv_2t, Int.toNat_natCast, Option.some.injEq, exists_eq_left', if_true, if_false]
              refine ih (i + 1) (nm + 1) _ _ _ _ g2 st tm (by omega) (by omega) hE (fun k hk => ?_) s2 (by rw [e2]; exact g15) (f.tr ((toB f1).tr f2))
              show gV (if k = nm then _ else V k)
              by_cases y : k = nm
              · rw [if_pos y]
                exact hg
              · rw [if_neg y]
                exact hV k (by omega)
            · rw [if_pos z2] at hE
              have hE := Option.some.inj hE
              have kk := diS_k z2
              rw [← hE] at pBad
              refine vs_ok 1 ?_
              rw [show ((gRes 95).drop 36).take 1 = [.ifCond .eq 43] from rfl]
              simp (disch := omega) only [vs_ifCond, vs_nil, gv_0, gv_1, gv_2, gv_3, pv_0, pv_1, va_rf_s, Nat.reduceDiv, Nat.reduceMod, Nat.reduceAdd, Nat.reduceMul, Int.reduceToNat, true_and, and_true, and_self, cP_eq, cP_ne, cP_lt, cP_ge, cP_gt, cP_le, eL_i, eL_l, eL_r, eL_n, Option.toList_none, Option.toList_some, List.nil_append, List.cons_append, kkI, llI, nnI, rrI, jjI, kkJ, llJ, nnJ, rrJ, iiJ, zIIs, zJJs, nEF, nET, and_false, false_and, jmin, jmax, catS_n, catS_i, catS_r, catS_l, Nat.reduceLeDiff, j1eq1, n21, jt0, jt1, Bool.false_eq_true, Classical.not_not, true_or, or_true, false_or, or_false, true_imp_iff, false_imp_iff, not_true_eq_false, not_false_eq_true, jif0, jif1, jifb, ltT, ltF, leT, leF, eqT, eqF, jlt, jle, jeq, jlt0, jle0, jeq0, jge0, jgt0, jinB, jnat, clt, cle, ceq, cgt, cge, lI_add, lI_sub, lI_mul, jadd, jsub, jmul, jneg, jtol, b010, b011, pv_2t, Int.toNat_natCast, Option.some.injEq, exists_eq_left', if_true, if_false]
              exact pBad g2 i _ _ _ _ _ _ _ none (by omega) s2 (f.tr ((toB f1).tr f2)) (by show (diS B len (V nm) (hdS B len Wd nm s).2.2.2.1).2.1 ≠ 0; omega) y5 y6
          · rw [if_neg cd] at hE e3
            refine vs_ok 3 ?_
            rw [show ((gRes 95).drop 31).take 3 = [.aload 0, .getfield 8033, .ifCond .eq 38] from rfl]
            simp (disch := omega) only [vs_ifCond, vs_getfield, vs_aload0, vs_nil, gv_0, gv_1, gv_2, gv_3, pv_0, pv_1, va_rf_s, Nat.reduceDiv, Nat.reduceMod, Nat.reduceAdd, Nat.reduceMul, Int.reduceToNat, true_and, and_true, and_self, cP_eq, cP_ne, cP_lt, cP_ge, cP_gt, cP_le, eL_i, eL_l, eL_r, eL_n, Option.toList_none, Option.toList_some, List.nil_append, List.cons_append, kkI, llI, nnI, rrI, jjI, kkJ, llJ, nnJ, rrJ, iiJ, zIIs, zJJs, nEF, nET, and_false, false_and, jmin, jmax, catS_n, catS_i, catS_r, catS_l, Nat.reduceLeDiff, j1eq1, n21, jt0, jt1, Bool.false_eq_true, Classical.not_not, true_or, or_true, false_or, or_false, true_imp_iff, false_imp_iff, not_true_eq_false, not_false_eq_true, jif0, jif1, jifb, ltT, ltF, leT, leF, eqT, eqF, jlt, jle, jeq, jlt0, jle0, jeq0, jge0, jgt0, jinB, jnat, clt, cle, ceq, cgt, cge, lI_add, lI_sub, lI_mul, jadd, jsub, jmul, jneg, jtol, b010, b011, pv_2t, Int.toNat_natCast, Option.some.injEq, exists_eq_left', if_true, if_false, T1, e3]
            refine vs_ok 1 ?_
            rw [show ((gRes 95).drop 38).take 1 = [.aload 0] from rfl]
            simp (disch := omega) only [vs_aload0, vs_nil, gv_0, gv_1, gv_2, gv_3, pv_0, pv_1, va_rf_s, Nat.reduceDiv, Nat.reduceMod, Nat.reduceAdd, Nat.reduceMul, Int.reduceToNat, true_and, and_true, and_self, cP_eq, cP_ne, cP_lt, cP_ge, cP_gt, cP_le, eL_i, eL_l, eL_r, eL_n, Option.toList_none, Option.toList_some, List.nil_append, List.cons_append, kkI, llI, nnI, rrI, jjI, kkJ, llJ, nnJ, rrJ, iiJ, zIIs, zJJs, nEF, nET, and_false, false_and, jmin, jmax, catS_n, catS_i, catS_r, catS_l, Nat.reduceLeDiff, j1eq1, n21, jt0, jt1, Bool.false_eq_true, Classical.not_not, true_or, or_true, false_or, or_false, true_imp_iff, false_imp_iff, not_true_eq_false, not_false_eq_true, jif0, jif1, jifb, ltT, ltF, leT, leF, eqT, eqF, jlt, jle, jeq, jlt0, jle0, jeq0, jge0, jgt0, jinB, jnat, clt, cle, ceq, cgt, cge, lI_add, lI_sub, lI_mul, jadd, jsub, jmul, jneg, jtol, b010, b011, pv_2t, Int.toNat_natCast, Option.some.injEq, exists_eq_left', if_true, if_false]
            cases e9 : leS B len Wd nm V (hdS B len Wd nm s).2.2.2.1 with
            | none => rw [e9] at hE; cases hE
            | some r =>
              rw [e9] at hE
              dsimp only at hE
              refine PW.iv rfl rfl rfl T1.1.1 T1.1.2.1 (le_b rfl) (le_b rfl) ?_
              refine t_readLet (D := D + 1) s1 hV hn12 hw e4 e9 (fun z2 hg g2 st2 tm2 f2 e2 s2 => ⟨rfl, ⟨f2.2.2.1, rfl⟩, ?_⟩) (fun z2 g2 s2' st2 tm2 f2 s2 y5 y6 => ⟨rfl, ⟨f2.2.2.1, rfl⟩, ?_⟩)
              · rw [if_neg (by rw [z2]; decide)] at hE
                refine vs_ok 1 ?_
                rw [show ((gRes 95).drop 40).take 1 = [.ifCond .eq 43] from rfl]
                simp (disch := omega) only [vs_ifCond, vs_nil, gv_0, gv_1, gv_2, gv_3, pv_0, pv_1, va_rf_s, Nat.reduceDiv, Nat.reduceMod, Nat.reduceAdd, Nat.reduceMul, Int.reduceToNat, true_and, and_true, and_self, cP_eq, cP_ne, cP_lt, cP_ge, cP_gt, cP_le, eL_i, eL_l, eL_r, eL_n, Option.toList_none, Option.toList_some, List.nil_append, List.cons_append, kkI, llI, nnI, rrI, jjI, kkJ, llJ, nnJ, rrJ, iiJ, zIIs, zJJs, nEF, nET, and_false, false_and, jmin, jmax, catS_n, catS_i, catS_r, catS_l, Nat.reduceLeDiff, j1eq1, n21, jt0, jt1, Bool.false_eq_true, Classical.not_not, true_or, or_true, false_or, or_false, true_imp_iff, false_imp_iff, not_true_eq_false, not_false_eq_true, jif0, jif1, jifb, ltT, ltF, leT, leF, eqT, eqF, jlt, jle, jeq, jlt0, jle0, jeq0, jge0, jgt0, jinB, jnat, clt, cle, ceq, cgt, cge, lI_add, lI_sub, lI_mul, jadd, jsub, jmul, jneg, jtol, b010, b011, pv_2t, Int.toNat_natCast, Option.some.injEq, exists_eq_left', if_true, if_false]
                refine vs_ok 2 ?_
                rw [show ((gRes 95).drop 41).take 2 = [.iconst 1, .goto 44] from rfl]
                simp (disch := omega) only [vs_iconst, vs_goto, vs_nil, gv_0, gv_1, gv_2, gv_3, pv_0, pv_1, va_rf_s, Nat.reduceDiv, Nat.reduceMod, Nat.reduceAdd, Nat.reduceMul, Int.reduceToNat, true_and, and_true, and_self, cP_eq, cP_ne, cP_lt, cP_ge, cP_gt, cP_le, eL_i, eL_l, eL_r, eL_n, Option.toList_none, Option.toList_some, List.nil_append, List.cons_append, kkI, llI, nnI, rrI, jjI, kkJ, llJ, nnJ, rrJ, iiJ, zIIs, zJJs, nEF, nET, and_false, false_and, jmin, jmax, catS_n, catS_i, catS_r, catS_l, Nat.reduceLeDiff, j1eq1, n21, jt0, jt1, Bool.false_eq_true, Classical.not_not, true_or, or_true, false_or, or_false, true_imp_iff, false_imp_iff, not_true_eq_false, not_false_eq_true, jif0, jif1, jifb, ltT, ltF, leT, leF, eqT, eqF, jlt, jle, jeq, jlt0, jle0, jeq0, jge0, jgt0, jinB, jnat, clt, cle, ceq, cgt, cge, lI_add, lI_sub, lI_mul, jadd, jsub, jmul, jneg, jtol, b010, b011, pv_2t, Int.toNat_natCast, Option.some.injEq, exists_eq_left', if_true, if_false]
                refine vs_ok 3 ?_
                rw [show ((gRes 95).drop 44).take 3 = [.istore 3, .iinc 4 1, .goto 19] from rfl]
                simp (disch := omega) only [vs_goto, vs_istore3n, vs_istore3i, vs_istore3r, vs_istore3l, vs_iinc4n, vs_iinc4i, vs_iinc4r, vs_iinc4l, vs_nil, gv_0, gv_1, gv_2, gv_3, pv_0, pv_1, va_rf_s, Nat.reduceDiv, Nat.reduceMod, Nat.reduceAdd, Nat.reduceMul, Int.reduceToNat, true_and, and_true, and_self, cP_eq, cP_ne, cP_lt, cP_ge, cP_gt, cP_le, eL_i, eL_l, eL_r, eL_n, Option.toList_none, Option.toList_some, List.nil_append, List.cons_append, kkI, llI, nnI, rrI, jjI, kkJ, llJ, nnJ, rrJ, iiJ, zIIs, zJJs, nEF, nET, and_false, false_and, jmin, jmax, catS_n, catS_i, catS_r, catS_l, Nat.reduceLeDiff, j1eq1, n21, jt0, jt1, Bool.false_eq_true, Classical.not_not, true_or, or_true, false_or, or_false, true_imp_iff, false_imp_iff, not_true_eq_false, not_false_eq_true, jif0, jif1, jifb, ltT, ltF, leT, leF, eqT, eqF, jlt, jle, jeq, jlt0, jle0, jeq0, jge0, jgt0, jinB, jnat, clt, cle, ceq, cgt, cge, lI_add, lI_sub, lI_mul, jadd, jsub, jmul, jneg, jtol, b010, b011, pv_2t, Int.toNat_natCast, Option.some.injEq, exists_eq_left', if_true, if_false]
                refine ih (i + 1) (nm + 1) _ _ _ _ g2 st2 tm2 (by omega) (by omega) hE (fun k hk => ?_) s2 (by rw [e2]; exact g15) (f.tr ((toB f1).tr f2))
                show gV (if k = nm then _ else V k)
                by_cases y : k = nm
                · rw [if_pos y]
                  exact hg
                · rw [if_neg y]
                  exact hV k (by omega)
              · rw [if_pos z2] at hE
                have hE := Option.some.inj hE
                have kk := leS_k e9 z2
                rw [← hE] at pBad
                refine vs_ok 1 ?_
                rw [show ((gRes 95).drop 40).take 1 = [.ifCond .eq 43] from rfl]
                simp (disch := omega) only [vs_ifCond, vs_nil, gv_0, gv_1, gv_2, gv_3, pv_0, pv_1, va_rf_s, Nat.reduceDiv, Nat.reduceMod, Nat.reduceAdd, Nat.reduceMul, Int.reduceToNat, true_and, and_true, and_self, cP_eq, cP_ne, cP_lt, cP_ge, cP_gt, cP_le, eL_i, eL_l, eL_r, eL_n, Option.toList_none, Option.toList_some, List.nil_append, List.cons_append, kkI, llI, nnI, rrI, jjI, kkJ, llJ, nnJ, rrJ, iiJ, zIIs, zJJs, nEF, nET, and_false, false_and, jmin, jmax, catS_n, catS_i, catS_r, catS_l, Nat.reduceLeDiff, j1eq1, n21, jt0, jt1, Bool.false_eq_true, Classical.not_not, true_or, or_true, false_or, or_false, true_imp_iff, false_imp_iff, not_true_eq_false, not_false_eq_true, jif0, jif1, jifb, ltT, ltF, leT, leF, eqT, eqF, jlt, jle, jeq, jlt0, jle0, jeq0, jge0, jgt0, jinB, jnat, clt, cle, ceq, cgt, cge, lI_add, lI_sub, lI_mul, jadd, jsub, jmul, jneg, jtol, b010, b011, pv_2t, Int.toNat_natCast, Option.some.injEq, exists_eq_left', if_true, if_false]
                exact pBad g2 i _ _ _ _ _ _ _ none (by omega) s2 (f.tr ((toB f1).tr f2)) (by show r.2.1 ≠ 0; omega) y5 y6
        · rw [if_pos z] at hE
          have hE := Option.some.inj hE
          have kk := hdS_k z
          rw [← hE] at pBad
          refine vs_ok 1 ?_
          rw [show ((gRes 95).drop 30).take 1 = [.ifCond .eq 43] from rfl]
          simp (disch := omega) only [vs_ifCond, vs_nil, gv_0, gv_1, gv_2, gv_3, pv_0, pv_1, va_rf_s, Nat.reduceDiv, Nat.reduceMod, Nat.reduceAdd, Nat.reduceMul, Int.reduceToNat, true_and, and_true, and_self, cP_eq, cP_ne, cP_lt, cP_ge, cP_gt, cP_le, eL_i, eL_l, eL_r, eL_n, Option.toList_none, Option.toList_some, List.nil_append, List.cons_append, kkI, llI, nnI, rrI, jjI, kkJ, llJ, nnJ, rrJ, iiJ, zIIs, zJJs, nEF, nET, and_false, false_and, jmin, jmax, catS_n, catS_i, catS_r, catS_l, Nat.reduceLeDiff, j1eq1, n21, jt0, jt1, Bool.false_eq_true, Classical.not_not, true_or, or_true, false_or, or_false, true_imp_iff, false_imp_iff, not_true_eq_false, not_false_eq_true, jif0, jif1, jifb, ltT, ltF, leT, leF, eqT, eqF, jlt, jle, jeq, jlt0, jle0, jeq0, jge0, jgt0, jinB, jnat, clt, cle, ceq, cgt, cge, lI_add, lI_sub, lI_mul, jadd, jsub, jmul, jneg, jtol, b010, b011, pv_2t, Int.toNat_natCast, Option.some.injEq, exists_eq_left', if_true, if_false]
          exact pBad g1 i _ _ _ _ _ _ _ none (by omega) s1 (f.tr (toB f1)) (by show (hdS B len Wd nm s).2.1 ≠ 0; omega) y5 y6
  refine vs_ok 4 ?_
  rw [show ((gRes 95).drop 15).take 4 = [.iconst 1, .istore 3, .iconst 0, .istore 4] from rfl]
  simp (disch := omega) only [vs_iconst, vs_istore3n, vs_istore3i, vs_istore3r, vs_istore3l, vs_istore4n, vs_istore4i, vs_istore4r, vs_istore4l, vs_nil, gv_0, gv_1, gv_2, gv_3, pv_0, pv_1, va_rf_s, Nat.reduceDiv, Nat.reduceMod, Nat.reduceAdd, Nat.reduceMul, Int.reduceToNat, true_and, and_true, and_self, cP_eq, cP_ne, cP_lt, cP_ge, cP_gt, cP_le, eL_i, eL_l, eL_r, eL_n, Option.toList_none, Option.toList_some, List.nil_append, List.cons_append, kkI, llI, nnI, rrI, jjI, kkJ, llJ, nnJ, rrJ, iiJ, zIIs, zJJs, nEF, nET, and_false, false_and, jmin, jmax, catS_n, catS_i, catS_r, catS_l, Nat.reduceLeDiff, j1eq1, n21, jt0, jt1, Bool.false_eq_true, Classical.not_not, true_or, or_true, false_or, or_false, true_imp_iff, false_imp_iff, not_true_eq_false, not_false_eq_true, jif0, jif1, jifb, ltT, ltF, leT, leF, eqT, eqF, jlt, jle, jeq, jlt0, jle0, jeq0, jge0, jgt0, jinB, jnat, clt, cle, ceq, cgt, cge, lI_add, lI_sub, lI_mul, jadd, jsub, jmul, jneg, jtol, b010, b011, pv_2t, Int.toNat_natCast, Option.some.injEq, exists_eq_left', if_true, if_false]
  exact lp 13 0 0 F Wd V _ g2 st tm (by omega) rfl hR (fun k hk => absurd hk (by omega)) s2 z52 fX2
theorem t_handOver {d : Nat} {h : Hp} {t to now : Nat} {Q : Nat → Option Value → Hp → Prop} (ho : teO h t to) (hto : to < zN h) (hn : now < zN h) (hq : ∀ g, fr (fun q => q = t) h g → zI g t = zI h t → teO g t now → Q 0 (some (.ref to)) g) : PR d m_Teller_handOver [.ref t, .ref now] h Q := by
  obtain ⟨o1, o2, o3, o4, o5⟩ := ho
  show PW d 96 0 [some (.ref t), some (.ref now), none] [] h Q
  refine vs_ok 8 ?_
  rw [show ((gRes 96).drop 0).take 8 = [.aload 0, .getfield 8022, .astore 2, .aload 0, .aload 1, .putfield 8022, .aload 2, .areturn] from rfl]
  simp (disch := omega) only [vs_getfield, vs_putfield, vs_areturn, vs_aload0, vs_aload1, vs_aload2, vs_astore2n, vs_astore2i, vs_astore2r, vs_astore2l, vs_nil, gv_0, gv_1, gv_2, gv_3, pv_0, pv_1, va_rf_s, Nat.reduceDiv, Nat.reduceMod, Nat.reduceAdd, Nat.reduceMul, Int.reduceToNat, true_and, and_true, and_self, cP_eq, cP_ne, cP_lt, cP_ge, cP_gt, cP_le, eL_i, eL_l, eL_r, eL_n, Option.toList_none, Option.toList_some, List.nil_append, List.cons_append, kkI, llI, nnI, rrI, jjI, kkJ, llJ, nnJ, rrJ, iiJ, zIIs, zJJs, nEF, nET, and_false, false_and, jmin, jmax, catS_n, catS_i, catS_r, catS_l, Nat.reduceLeDiff, j1eq1, n21, jt0, jt1, Bool.false_eq_true, Classical.not_not, true_or, or_true, false_or, or_false, true_imp_iff, false_imp_iff, not_true_eq_false, not_false_eq_true, jif0, jif1, jifb, ltT, ltF, leT, leF, eqT, eqF, jlt, jle, jeq, jlt0, jle0, jeq0, jge0, jgt0, jinB, jnat, clt, cle, ceq, cgt, cge, lI_add, lI_sub, lI_mul, jadd, jsub, jmul, jneg, jtol, b010, b011, pv_2t, Int.toNat_natCast, Option.some.injEq, exists_eq_left', if_true, if_false, o1, show t < zN h from by omega, o5, kkR, nnR, show gRc 96 = 4 from rfl]
  refine hq _ (fr_R rfl) rfl ⟨o1, o2, ?_, ?_, ?_⟩
  · rw [zR_sR, if_neg (by omega)]; exact o3
  · rw [zR_sR, if_neg (by omega)]; exact o4
  · rw [zR_sR, if_pos ⟨rfl, rfl⟩]
