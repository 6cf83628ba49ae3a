/-! FaceSearch: chooseNext, take -/
/-- the search's numbers: what is left, times of x and y, the last tried, how many of x and y are laid -/
def fsC (h : Hp) (x p q : Nat) (lf : Nat → Int) (X Y tr : Nat → Nat) (lx ly : Nat) : Prop := fsO h x ∧ zI h x 5 = iI p ∧ zI h x 6 = iI q ∧ (∀ i, i < 122 → (-50000 ≤ lf i ∧ lf i ≤ 50000) ∧ zI h (x + 5) i = iI (lf i)) ∧ (∀ i, i < 61 → X i ≤ 64 ∧ zI h (x + 6) i = iI (X i)) ∧ (∀ i, i < 61 → Y i ≤ 64 ∧ zI h (x + 7) i = iI (Y i)) ∧ (∀ i, i < 61 → tr i ≤ 65 ∧ zI h (x + 8) i = iI (tr i)) ∧ zI h x 10 = iI lx ∧ zI h x 11 = iI ly
abbrev upN (F : Nat → Nat) (k v : Nat) : Nat → Nat := fun i => if i = k then v else F i
/-- the most of x, below t, that can be at degree d, and the y that goes with it -/
def cnF (lf : Nat → Int) (X Y : Nat → Nat) (d b : Nat) : Nat → Option (Nat × Nat)
  | 0 => none
  | t + 1 => if d = 0 ∧ t = 0 then none else if 0 ≤ ptF lf X Y d t ∧ ptF lf X Y d t ≤ b then some (t, (ptF lf X Y d t).toNat) else cnF lf X Y d b t
theorem cnF_lt {lf : Nat → Int} {X Y : Nat → Nat} {d b : Nat} : ∀ {t : Nat} {r : Nat × Nat}, cnF lf X Y d b t = some r → r.1 < t ∧ r.2 ≤ b
  | 0, _, h => by cases h
  | t + 1, r, h => by
    unfold cnF at h
    split at h
    · cases h
    · split at h
      · rename_i c
        have h := Option.some.inj h
        subst h
        exact ⟨by show t < t + 1; omega, by show (ptF lf X Y d t).toNat ≤ b; omega⟩
      · have := cnF_lt h
        exact ⟨by omega, this.2⟩
theorem pt_b {lf : Nat → Int} {X Y : Nat → Nat} {d m : Nat} (hl : ∀ i, i < 122 → -50000 ≤ lf i ∧ lf i ≤ 50000) (hd : d < 61) : -1 ≤ ptF lf X Y d m ∧ ptF lf X Y d m ≤ 50000 := by
  have l0 := hl 0 (by omega)
  have ld := hl d (by omega)
  unfold ptF
  dsimp only
  generalize hr : (if d = 0 then lf 0 else lf d - (m : Int) * (Y 0 : Int)) = r
  generalize (if d = 0 then m else X 0) = dv
  have rb : r ≤ 50000 := by
    rw [← hr]
    split
    · omega
    · have : 0 ≤ (m : Int) * (Y 0 : Int) := Int.mul_nonneg (by omega) (by omega)
      omega
  split
  · omega
  · rename_i c
    have h1 : 0 ≤ r / (dv : Int) := Int.ediv_nonneg (by omega) (by omega)
    have h2 : r / (dv : Int) ≤ r := Int.ediv_le_self _ (by omega)
    omega
theorem t_chooseNext {d : Nat} {h : Hp} {x p q e lx ly : Nat} {lf : Nat → Int} {X Y tr : Nat → Nat} {Q : Nat → Option Value → Hp → Prop} (hs : fsC h x p q lf X Y tr lx ly) (hq64 : q ≤ 64) (hly : ly ≤ q) (he : e < 61)
    (hq1 : ∀ r, cnF lf X Y e (q - ly) (tr e) = some r → ∀ g, fi (fun q => q = x + 6 ∨ q = x + 7 ∨ q = x + 8) h g → fsC g x p q lf (upN X e r.1) (upN Y e r.2) (upN tr e r.1) lx ly → Q 0 (some (.int (iI 1))) g)
    (hq0 : cnF lf X Y e (q - ly) (tr e) = none → ∀ g, fi (fun q => q = x + 6 ∨ q = x + 7 ∨ q = x + 8) h g → fsC g x p q lf (upN X e 0) (upN Y e 0) tr lx ly → Q 0 (some (.int (iI 0))) g) : PR (d + 1) m_FaceSearch_chooseNext [.ref x, .int (iI e)] h Q := by
  obtain ⟨ho, h5, h6, hl, hx, hy, ht, h10, h11⟩ := id hs
  have N := fsF ho
  have te := ht e he
  show PW (d + 1) 17 0 [some (.ref x), some (.int (iI e)), none, none] [] h Q
  have upd : ∀ (g : Hp) (A B C : Nat → Nat), fi (fun q => q = x + 6 ∨ q = x + 7 ∨ q = x + 8) h g → (∀ i, i < 61 → A i ≤ 64 ∧ zI g (x + 6) i = iI (A i)) → (∀ i, i < 61 → B i ≤ 64 ∧ zI g (x + 7) i = iI (B i)) → (∀ i, i < 61 → C i ≤ 65 ∧ zI g (x + 8) i = iI (C i)) → fsC g x p q lf A B C lx ly := fun g A B C f a b c => by
    have r := f.1.2.2.2.2.2.1
    have gx : zI g x = zI h x := r _ (by omega)
    exact ⟨ho.fi f, by rw [gx]; exact h5, by rw [gx]; exact h6, fun i hi => ⟨(hl i hi).1, by rw [r _ (by omega)]; exact (hl i hi).2⟩, a, b, c, by rw [gx]; exact h10, by rw [gx]; exact h11⟩
  have done : cnF lf X Y e (q - ly) (tr e) = none → ∀ (m : Int) (o3 : Option Value), PW (d + 1) 17 47 [some (.ref x), some (.int (iI e)), some (.int (iI m)), o3] [] h Q := fun hN m o3 => by
    refine vs_ok 12 ?_
    rw [show ((gRes 17).drop 47).take 12 = [.aload 0, .getfield 1022, .iload 1, .iconst 0, .iastore, .aload 0, .getfield 1032, .iload 1, .iconst 0, .iastore, .iconst 0, .ireturn] from rfl]
    simp (disch := omega) only [vs_iconst, vs_getfield, vs_iastore, vs_ireturn, vs_aload0, vs_iload1, vs_nil, gv_0, gv_1, gv_2, gv_3, pv_0, pv_1, va_rf_s, Nat.reduceDiv, Nat.reduceMod, Nat.reduceAdd, Nat.reduceMul, Int.reduceToNat, true_and, and_true, and_self, cP_eq, cP_ne, cP_lt, cP_ge, cP_gt, cP_le, eL_i, eL_l, eL_r, eL_n, Option.toList_none, Option.toList_some, List.nil_append, List.cons_append, kkI, llI, nnI, rrI, jjI, kkJ, llJ, nnJ, rrJ, iiJ, zIIs, zJJs, nEF, nET, and_false, false_and, jmin, jmax, catS_n, catS_i, catS_r, catS_l, Nat.reduceLeDiff, j1eq1, n21, jt0, jt1, Bool.false_eq_true, Classical.not_not, true_or, or_true, false_or, or_false, true_imp_iff, false_imp_iff, not_true_eq_false, not_false_eq_true, jif0, jif1, jifb, ltT, ltF, leT, leF, eqT, eqF, jlt, jle, jeq, jlt0, jle0, jeq0, jge0, jgt0, jinB, jnat, clt, cle, ceq, cgt, cge, lI_add, lI_sub, lI_mul, jadd, jsub, jmul, jneg, jtol, b010, b011, pv_2t, Int.toNat_natCast, Option.some.injEq, exists_eq_left', if_true, if_false, N, show gRc 17 = 2 from rfl]
    refine hq0 hN _ ((fi_I (S := fun q => q = x + 6 ∨ q = x + 7 ∨ q = x + 8) (Or.inl rfl)).I (Or.inr (Or.inl rfl))) (upd _ _ _ _ ((fi_I (S := fun q => q = x + 6 ∨ q = x + 7 ∨ q = x + 8) (Or.inl rfl)).I (Or.inr (Or.inl rfl))) (fun i hi => ?_) (fun i hi => ?_) fun i hi => ?_)
    · rw [zI_s, if_neg (by omega), zI_s]
      show (if i = e then 0 else X i) ≤ 64 ∧ _ = iI ((if i = e then 0 else X i : Nat) : Int)
      by_cases c : i = e
      · rw [if_pos c, if_pos ⟨rfl, c⟩]
        exact ⟨by omega, rfl⟩
      · rw [if_neg c, if_neg (fun z => c z.2)]
        exact hx i hi
    · rw [zI_s]
      show (if i = e then 0 else Y i) ≤ 64 ∧ _ = iI ((if i = e then 0 else Y i : Nat) : Int)
      by_cases c : i = e
      · rw [if_pos c, if_pos ⟨rfl, c⟩]
        exact ⟨by omega, rfl⟩
      · rw [if_neg c, if_neg (fun z => c z.2), zI_s, if_neg (by omega)]
        exact hy i hi
    · rw [zI_s, if_neg (by omega), zI_s, if_neg (by omega)]
      exact ht i hi
  have lp : ∀ (t : Nat) (o3 : Option Value), t ≤ tr e → cnF lf X Y e (q - ly) t = cnF lf X Y e (q - ly) (tr e) → PW (d + 1) 17 7 [some (.ref x), some (.int (iI e)), some (.int (iI ((t : Int) - 1))), o3] [] h Q := by
    intro t
    induction t with
    | zero =>
      intro o3 htt hE
      have hN := hE.symm
      by_cases c : e = 0
      · refine vs_ok 3 ?_
        rw [show ((gRes 17).drop 7).take 3 = [.iload 2, .iload 1, .ifCond .ne 12] from rfl]
        simp (disch := omega) only [vs_ifCond, vs_iload1, vs_iload2, vs_nil, gv_0, gv_1, gv_2, gv_3, pv_0, pv_1, va_rf_s, Nat.reduceDiv, Nat.reduceMod, Nat.reduceAdd, Nat.reduceMul, Int.reduceToNat, true_and, and_true, and_self, cP_eq, cP_ne, cP_lt, cP_ge, cP_gt, cP_le, eL_i, eL_l, eL_r, eL_n, Option.toList_none, Option.toList_some, List.nil_append, List.cons_append, kkI, llI, nnI, rrI, jjI, kkJ, llJ, nnJ, rrJ, iiJ, zIIs, zJJs, nEF, nET, and_false, false_and, jmin, jmax, catS_n, catS_i, catS_r, catS_l, Nat.reduceLeDiff, j1eq1, n21, jt0, jt1, Bool.false_eq_true, Classical.not_not, true_or, or_true, false_or, or_false, true_imp_iff, false_imp_iff, not_true_eq_false, not_false_eq_true, jif0, jif1, jifb, ltT, ltF, leT, leF, eqT, eqF, jlt, jle, jeq, jlt0, jle0, jeq0, jge0, jgt0, jinB, jnat, clt, cle, ceq, cgt, cge, lI_add, lI_sub, lI_mul, jadd, jsub, jmul, jneg, jtol, b010, b011, pv_2t, Int.toNat_natCast, Option.some.injEq, exists_eq_left', if_true, if_false]
        refine vs_ok 2 ?_
        rw [show ((gRes 17).drop 10).take 2 = [.iconst 1, .goto 13] from rfl]
        simp (disch := omega) only [vs_iconst, vs_goto, vs_nil, gv_0, gv_1, gv_2, gv_3, pv_0, pv_1, va_rf_s, Nat.reduceDiv, Nat.reduceMod, Nat.reduceAdd, Nat.reduceMul, Int.reduceToNat, true_and, and_true, and_self, cP_eq, cP_ne, cP_lt, cP_ge, cP_gt, cP_le, eL_i, eL_l, eL_r, eL_n, Option.toList_none, Option.toList_some, List.nil_append, List.cons_append, kkI, llI, nnI, rrI, jjI, kkJ, llJ, nnJ, rrJ, iiJ, zIIs, zJJs, nEF, nET, and_false, false_and, jmin, jmax, catS_n, catS_i, catS_r, catS_l, Nat.reduceLeDiff, j1eq1, n21, jt0, jt1, Bool.false_eq_true, Classical.not_not, true_or, or_true, false_or, or_false, true_imp_iff, false_imp_iff, not_true_eq_false, not_false_eq_true, jif0, jif1, jifb, ltT, ltF, leT, leF, eqT, eqF, jlt, jle, jeq, jlt0, jle0, jeq0, jge0, jgt0, jinB, jnat, clt, cle, ceq, cgt, cge, lI_add, lI_sub, lI_mul, jadd, jsub, jmul, jneg, jtol, b010, b011, pv_2t, Int.toNat_natCast, Option.some.injEq, exists_eq_left', if_true, if_false]
        refine vs_ok 1 ?_
        rw [show ((gRes 17).drop 13).take 1 = [.if_icmp .lt 47] from rfl]
        simp (disch := omega) only [vs_if_icmp, vs_nil, gv_0, gv_1, gv_2, gv_3, pv_0, pv_1, va_rf_s, Nat.reduceDiv, Nat.reduceMod, Nat.reduceAdd, Nat.reduceMul, Int.reduceToNat, true_and, and_true, and_self, cP_eq, cP_ne, cP_lt, cP_ge, cP_gt, cP_le, eL_i, eL_l, eL_r, eL_n, Option.toList_none, Option.toList_some, List.nil_append, List.cons_append, kkI, llI, nnI, rrI, jjI, kkJ, llJ, nnJ, rrJ, iiJ, zIIs, zJJs, nEF, nET, and_false, false_and, jmin, jmax, catS_n, catS_i, catS_r, catS_l, Nat.reduceLeDiff, j1eq1, n21, jt0, jt1, Bool.false_eq_true, Classical.not_not, true_or, or_true, false_or, or_false, true_imp_iff, false_imp_iff, not_true_eq_false, not_false_eq_true, jif0, jif1, jifb, ltT, ltF, leT, leF, eqT, eqF, jlt, jle, jeq, jlt0, jle0, jeq0, jge0, jgt0, jinB, jnat, clt, cle, ceq, cgt, cge, lI_add, lI_sub, lI_mul, jadd, jsub, jmul, jneg, jtol, b010, b011, pv_2t, Int.toNat_natCast, Option.some.injEq, exists_eq_left', if_true, if_false]
        exact done hN _ _
      · refine vs_ok 3 ?_
        rw [show ((gRes 17).drop 7).take 3 = [.iload 2, .iload 1, .ifCond .ne 12] from rfl]
        simp (disch := omega) only [vs_ifCond, vs_iload1, vs_iload2, vs_nil, gv_0, gv_1, gv_2, gv_3, pv_0, pv_1, va_rf_s, Nat.reduceDiv, Nat.reduceMod, Nat.reduceAdd, Nat.reduceMul, Int.reduceToNat, true_and, and_true, and_self, cP_eq, cP_ne, cP_lt, cP_ge, cP_gt, cP_le, eL_i, eL_l, eL_r, eL_n, Option.toList_none, Option.toList_some, List.nil_append, List.cons_append, kkI, llI, nnI, rrI, jjI, kkJ, llJ, nnJ, rrJ, iiJ, zIIs, zJJs, nEF, nET, and_false, false_and, jmin, jmax, catS_n, catS_i, catS_r, catS_l, Nat.reduceLeDiff, j1eq1, n21, jt0, jt1, Bool.false_eq_true, Classical.not_not, true_or, or_true, false_or, or_false, true_imp_iff, false_imp_iff, not_true_eq_false, not_false_eq_true, jif0, jif1, jifb, ltT, ltF, leT, leF, eqT, eqF, jlt, jle, jeq, jlt0, jle0, jeq0, jge0, jgt0, jinB, jnat, clt, cle, ceq, cgt, cge, lI_add, lI_sub, lI_mul, jadd, jsub, jmul, jneg, jtol, b010, b011, pv_2t, Int.toNat_natCast, Option.some.injEq, exists_eq_left', if_true, if_false]
        refine vs_ok 1 ?_
        rw [show ((gRes 17).drop 12).take 1 = [.iconst 0] from rfl]
        simp (disch := omega) only [vs_iconst, vs_nil, gv_0, gv_1, gv_2, gv_3, pv_0, pv_1, va_rf_s, Nat.reduceDiv, Nat.reduceMod, Nat.reduceAdd, Nat.reduceMul, Int.reduceToNat, true_and, and_true, and_self, cP_eq, cP_ne, cP_lt, cP_ge, cP_gt, cP_le, eL_i, eL_l, eL_r, eL_n, Option.toList_none, Option.toList_some, List.nil_append, List.cons_append, kkI, llI, nnI, rrI, jjI, kkJ, llJ, nnJ, rrJ, iiJ, zIIs, zJJs, nEF, nET, and_false, false_and, jmin, jmax, catS_n, catS_i, catS_r, catS_l, Nat.reduceLeDiff, j1eq1, n21, jt0, jt1, Bool.false_eq_true, Classical.not_not, true_or, or_true, false_or, or_false, true_imp_iff, false_imp_iff, not_true_eq_false, not_false_eq_true, jif0, jif1, jifb, ltT, ltF, leT, leF, eqT, eqF, jlt, jle, jeq, jlt0, jle0, jeq0, jge0, jgt0, jinB, jnat, clt, cle, ceq, cgt, cge, lI_add, lI_sub, lI_mul, jadd, jsub, jmul, jneg, jtol, b010, b011, pv_2t, Int.toNat_natCast, Option.some.injEq, exists_eq_left', if_true, if_false]
        refine vs_ok 1 ?_
        rw [show ((gRes 17).drop 13).take 1 = [.if_icmp .lt 47] from rfl]
        simp (disch := omega) only [vs_if_icmp, vs_nil, gv_0, gv_1, gv_2, gv_3, pv_0, pv_1, va_rf_s, Nat.reduceDiv, Nat.reduceMod, Nat.reduceAdd, Nat.reduceMul, Int.reduceToNat, true_and, and_true, and_self, cP_eq, cP_ne, cP_lt, cP_ge, cP_gt, cP_le, eL_i, eL_l, eL_r, eL_n, Option.toList_none, Option.toList_some, List.nil_append, List.cons_append, kkI, llI, nnI, rrI, jjI, kkJ, llJ, nnJ, rrJ, iiJ, zIIs, zJJs, nEF, nET, and_false, false_and, jmin, jmax, catS_n, catS_i, catS_r, catS_l, Nat.reduceLeDiff, j1eq1, n21, jt0, jt1, Bool.false_eq_true, Classical.not_not, true_or, or_true, false_or, or_false, true_imp_iff, false_imp_iff, not_true_eq_false, not_false_eq_true, jif0, jif1, jifb, ltT, ltF, leT, leF, eqT, eqF, jlt, jle, jeq, jlt0, jle0, jeq0, jge0, jgt0, jinB, jnat, clt, cle, ceq, cgt, cge, lI_add, lI_sub, lI_mul, jadd, jsub, jmul, jneg, jtol, b010, b011, pv_2t, Int.toNat_natCast, Option.some.injEq, exists_eq_left', if_true, if_false]
        exact done hN _ _
    | succ t ih =>
      intro o3 htt hE
      have m1 : ((t + 1 : Nat) : Int) - 1 = (t : Int) := by omega
      have ef : cnF lf X Y e (q - ly) (t + 1) = if e = 0 ∧ t = 0 then none else if 0 ≤ ptF lf X Y e t ∧ ptF lf X Y e t ≤ ((q - ly : Nat) : Int) then some (t, (ptF lf X Y e t).toNat) else cnF lf X Y e (q - ly) t := rfl
      rw [ef] at hE
      rw [m1]
      have p14 : ¬ (e = 0 ∧ t = 0) → PW (d + 1) 17 14 [some (.ref x), some (.int (iI e)), some (.int (iI t)), o3] [] h Q := fun c0 => by
        rw [if_neg c0] at hE
        have pb := pt_b (X := X) (Y := Y) (m := t) (fun i hi => (hl i hi).1) he
        have e1 : (q : Int) - (ly : Int) = ((q - ly : Nat) : Int) := by omega
        have m2 : (t : Int) + (-1) = (t : Int) - 1 := by omega
        have nx : ¬ (0 ≤ ptF lf X Y e t ∧ ptF lf X Y e t ≤ ((q - ly : Nat) : Int)) → PW (d + 1) 17 45 [some (.ref x), some (.int (iI e)), some (.int (iI t)), some (.int (iI (ptF lf X Y e t)))] [] h Q := fun c => by
          rw [if_neg c] at hE
          refine vs_ok 2 ?_
          rw [show ((gRes 17).drop 45).take 2 = [.iinc 2 (-1), .goto 7] from rfl]
          simp (disch := omega) only [vs_goto, vs_iinc2n, vs_iinc2i, vs_iinc2r, vs_iinc2l, vs_nil, gv_0, gv_1, gv_2, gv_3, pv_0, pv_1, va_rf_s, Nat.reduceDiv, Nat.reduceMod, Nat.reduceAdd, Nat.reduceMul, Int.reduceToNat, true_and, and_true, and_self, cP_eq, cP_ne, cP_lt, cP_ge, cP_gt, cP_le, eL_i, eL_l, eL_r, eL_n, Option.toList_none, Option.toList_some, List.nil_append, List.cons_append, kkI, llI, nnI, rrI, jjI, kkJ, llJ, nnJ, rrJ, iiJ, zIIs, zJJs, nEF, nET, and_false, false_and, jmin, jmax, catS_n, catS_i, catS_r, catS_l, Nat.reduceLeDiff, j1eq1, n21, jt0, jt1, Bool.false_eq_true, Classical.not_not, true_or, or_true, false_or, or_false, true_imp_iff, false_imp_iff, not_true_eq_false, not_false_eq_true, jif0, jif1, jifb, ltT, ltF, leT, leF, eqT, eqF, jlt, jle, jeq, jlt0, jle0, jeq0, jge0, jgt0, jinB, jnat, clt, cle, ceq, cgt, cge, lI_add, lI_sub, lI_mul, jadd, jsub, jmul, jneg, jtol, b010, b011, pv_2t, Int.toNat_natCast, Option.some.injEq, exists_eq_left', if_true, if_false, m2]
          exact ih _ (by omega) hE
        refine vs_ok 3 ?_
        rw [show ((gRes 17).drop 14).take 3 = [.aload 0, .iload 1, .iload 2] from rfl]
        simp (disch := omega) only [vs_aload0, vs_iload1, vs_iload2, vs_nil, gv_0, gv_1, gv_2, gv_3, pv_0, pv_1, va_rf_s, Nat.reduceDiv, Nat.reduceMod, Nat.reduceAdd, Nat.reduceMul, Int.reduceToNat, true_and, and_true, and_self, cP_eq, cP_ne, cP_lt, cP_ge, cP_gt, cP_le, eL_i, eL_l, eL_r, eL_n, Option.toList_none, Option.toList_some, List.nil_append, List.cons_append, kkI, llI, nnI, rrI, jjI, kkJ, llJ, nnJ, rrJ, iiJ, zIIs, zJJs, nEF, nET, and_false, false_and, jmin, jmax, catS_n, catS_i, catS_r, catS_l, Nat.reduceLeDiff, j1eq1, n21, jt0, jt1, Bool.false_eq_true, Classical.not_not, true_or, or_true, false_or, or_false, true_imp_iff, false_imp_iff, not_true_eq_false, not_false_eq_true, jif0, jif1, jifb, ltT, ltF, leT, leF, eqT, eqF, jlt, jle, jeq, jlt0, jle0, jeq0, jge0, jgt0, jinB, jnat, clt, cle, ceq, cgt, cge, lI_add, lI_sub, lI_mul, jadd, jsub, jmul, jneg, jtol, b010, b011, pv_2t, Int.toNat_natCast, Option.some.injEq, exists_eq_left', if_true, if_false]
        refine PW.iv rfl rfl rfl N.1.1 N.1.2.1 (le_b rfl) (le_b rfl) ?_
        refine t_partner ho he (by omega) (fun i hi => ⟨by have := (hl i hi).1; omega, (hl i hi).2⟩) hx hy ⟨rfl, ⟨rfl, rfl⟩, ?_⟩
        by_cases c1 : ptF lf X Y e t < 0
        · refine vs_ok 3 ?_
          rw [show ((gRes 17).drop 18).take 3 = [.istore 3, .iload 3, .ifCond .lt 45] from rfl]
          simp (disch := omega) only [vs_ifCond, vs_iload3, vs_istore3n, vs_istore3i, vs_istore3r, vs_istore3l, vs_nil, gv_0, gv_1, gv_2, gv_3, pv_0, pv_1, va_rf_s, Nat.reduceDiv, Nat.reduceMod, Nat.reduceAdd, Nat.reduceMul, Int.reduceToNat, true_and, and_true, and_self, cP_eq, cP_ne, cP_lt, cP_ge, cP_gt, cP_le, eL_i, eL_l, eL_r, eL_n, Option.toList_none, Option.toList_some, List.nil_append, List.cons_append, kkI, llI, nnI, rrI, jjI, kkJ, llJ, nnJ, rrJ, iiJ, zIIs, zJJs, nEF, nET, and_false, false_and, jmin, jmax, catS_n, catS_i, catS_r, catS_l, Nat.reduceLeDiff, j1eq1, n21, jt0, jt1, Bool.false_eq_true, Classical.not_not, true_or, or_true, false_or, or_false, true_imp_iff, false_imp_iff, not_true_eq_false, not_false_eq_true, jif0, jif1, jifb, ltT, ltF, leT, leF, eqT, eqF, jlt, jle, jeq, jlt0, jle0, jeq0, jge0, jgt0, jinB, jnat, clt, cle, ceq, cgt, cge, lI_add, lI_sub, lI_mul, jadd, jsub, jmul, jneg, jtol, b010, b011, pv_2t, Int.toNat_natCast, Option.some.injEq, exists_eq_left', if_true, if_false]
          exact nx (by omega)
        · by_cases c2 : ptF lf X Y e t ≤ ((q - ly : Nat) : Int)
          · rw [if_pos ⟨by omega, c2⟩] at hE
            obtain ⟨o, hoo⟩ : ∃ o : Nat, ptF lf X Y e t = (o : Int) := ⟨(ptF lf X Y e t).toNat, by omega⟩
            rw [hoo] at hE c1 c2 ⊢
            rw [Int.toNat_natCast] at hE
            have f3 : fi (fun q => q = x + 6 ∨ q = x + 7 ∨ q = x + 8) h (zsI (zsI (zsI h (x + 8) e (iI t)) (x + 6) e (iI t)) (x + 7) e (iI o)) := ((fi_I (S := fun q => q = x + 6 ∨ q = x + 7 ∨ q = x + 8) (Or.inr (Or.inr rfl))).I (Or.inl rfl)).I (Or.inr (Or.inl rfl))
            refine vs_ok 10 ?_
            rw [show ((gRes 17).drop 18).take 10 = [.istore 3, .iload 3, .ifCond .lt 45, .iload 3, .aload 0, .getfield 1060, .aload 0, .getfield 1110, .isub, .if_icmp .gt 45] from rfl]
            simp (disch := omega) only [vs_isub, vs_if_icmp, vs_ifCond, vs_getfield, vs_aload0, vs_iload3, vs_istore3n, vs_istore3i, vs_istore3r, vs_istore3l, vs_nil, gv_0, gv_1, gv_2, gv_3, pv_0, pv_1, va_rf_s, Nat.reduceDiv, Nat.reduceMod, Nat.reduceAdd, Nat.reduceMul, Int.reduceToNat, true_and, and_true, and_self, cP_eq, cP_ne, cP_lt, cP_ge, cP_gt, cP_le, eL_i, eL_l, eL_r, eL_n, Option.toList_none, Option.toList_some, List.nil_append, List.cons_append, kkI, llI, nnI, rrI, jjI, kkJ, llJ, nnJ, rrJ, iiJ, zIIs, zJJs, nEF, nET, and_false, false_and, jmin, jmax, catS_n, catS_i, catS_r, catS_l, Nat.reduceLeDiff, j1eq1, n21, jt0, jt1, Bool.false_eq_true, Classical.not_not, true_or, or_true, false_or, or_false, true_imp_iff, false_imp_iff, not_true_eq_false, not_false_eq_true, jif0, jif1, jifb, ltT, ltF, leT, leF, eqT, eqF, jlt, jle, jeq, jlt0, jle0, jeq0, jge0, jgt0, jinB, jnat, clt, cle, ceq, cgt, cge, lI_add, lI_sub, lI_mul, jadd, jsub, jmul, jneg, jtol, b010, b011, pv_2t, Int.toNat_natCast, Option.some.injEq, exists_eq_left', if_true, if_false, N, h6, h11, e1]
            refine vs_ok 17 ?_
            rw [show ((gRes 17).drop 28).take 17 = [.aload 0, .getfield 1042, .iload 1, .iload 2, .iastore, .aload 0, .getfield 1022, .iload 1, .iload 2, .iastore, .aload 0, .getfield 1032, .iload 1, .iload 3, .iastore, .iconst 1, .ireturn] from rfl]
            simp (disch := omega) only [vs_iconst, vs_getfield, vs_iastore, vs_ireturn, vs_aload0, vs_iload1, vs_iload2, vs_iload3, vs_nil, gv_0, gv_1, gv_2, gv_3, pv_0, pv_1, va_rf_s, Nat.reduceDiv, Nat.reduceMod, Nat.reduceAdd, Nat.reduceMul, Int.reduceToNat, true_and, and_true, and_self, cP_eq, cP_ne, cP_lt, cP_ge, cP_gt, cP_le, eL_i, eL_l, eL_r, eL_n, Option.toList_none, Option.toList_some, List.nil_append, List.cons_append, kkI, llI, nnI, rrI, jjI, kkJ, llJ, nnJ, rrJ, iiJ, zIIs, zJJs, nEF, nET, and_false, false_and, jmin, jmax, catS_n, catS_i, catS_r, catS_l, Nat.reduceLeDiff, j1eq1, n21, jt0, jt1, Bool.false_eq_true, Classical.not_not, true_or, or_true, false_or, or_false, true_imp_iff, false_imp_iff, not_true_eq_false, not_false_eq_true, jif0, jif1, jifb, ltT, ltF, leT, leF, eqT, eqF, jlt, jle, jeq, jlt0, jle0, jeq0, jge0, jgt0, jinB, jnat, clt, cle, ceq, cgt, cge, lI_add, lI_sub, lI_mul, jadd, jsub, jmul, jneg, jtol, b010, b011, pv_2t, Int.toNat_natCast, Option.some.injEq, exists_eq_left', if_true, if_false, N, show gRc 17 = 2 from rfl]
            refine hq1 (t, o) hE.symm _ f3 (upd _ _ _ _ f3 (fun i hi => ?_) (fun i hi => ?_) fun i hi => ?_)
            · rw [zI_s, if_neg (by omega), zI_s]
              show (if i = e then t else X i) ≤ 64 ∧ _ = iI ((if i = e then t else X i : Nat) : Int)
              by_cases c : i = e
              · rw [if_pos c, if_pos ⟨rfl, c⟩]
                exact ⟨by omega, rfl⟩
              · rw [if_neg c, if_neg (fun z => c z.2), zI_s, if_neg (by omega)]
                exact hx i hi
            · rw [zI_s]
              show (if i = e then o else Y i) ≤ 64 ∧ _ = iI ((if i = e then o else Y i : Nat) : Int)
              by_cases c : i = e
              · rw [if_pos c, if_pos ⟨rfl, c⟩]
                exact ⟨by omega, rfl⟩
              · rw [if_neg c, if_neg (fun z => c z.2), zI_s, if_neg (by omega), zI_s, if_neg (by omega)]
                exact hy i hi
            · rw [zI_s, if_neg (by omega), zI_s, if_neg (by omega), zI_s]
              show (if i = e then t else tr i) ≤ 65 ∧ _ = iI ((if i = e then t else tr i : Nat) : Int)
              by_cases c : i = e
              · rw [if_pos c, if_pos ⟨rfl, c⟩]
                exact ⟨by omega, rfl⟩
              · rw [if_neg c, if_neg (fun z => c z.2)]
                exact ht i hi
          · refine vs_ok 10 ?_
            rw [show ((gRes 17).drop 18).take 10 = [.istore 3, .iload 3, .ifCond .lt 45, .iload 3, .aload 0, .getfield 1060, .aload 0, .getfield 1110, .isub, .if_icmp .gt 45] from rfl]
            simp (disch := omega) only [vs_isub, vs_if_icmp, vs_ifCond, vs_getfield, vs_aload0, vs_iload3, vs_istore3n, vs_istore3i, vs_istore3r, vs_istore3l, vs_nil, gv_0, gv_1, gv_2, gv_3, pv_0, pv_1, va_rf_s, Nat.reduceDiv, Nat.reduceMod, Nat.reduceAdd, Nat.reduceMul, Int.reduceToNat, true_and, and_true, and_self, cP_eq, cP_ne, cP_lt, cP_ge, cP_gt, cP_le, eL_i, eL_l, eL_r, eL_n, Option.toList_none, Option.toList_some, List.nil_append, List.cons_append, kkI, llI, nnI, rrI, jjI, kkJ, llJ, nnJ, rrJ, iiJ, zIIs, zJJs, nEF, nET, and_false, false_and, jmin, jmax, catS_n, catS_i, catS_r, catS_l, Nat.reduceLeDiff, j1eq1, n21, jt0, jt1, Bool.false_eq_true, Classical.not_not, true_or, or_true, false_or, or_false, true_imp_iff, false_imp_iff, not_true_eq_false, not_false_eq_true, jif0, jif1, jifb, ltT, ltF, leT, leF, eqT, eqF, jlt, jle, jeq, jlt0, jle0, jeq0, jge0, jgt0, jinB, jnat, clt, cle, ceq, cgt, cge, lI_add, lI_sub, lI_mul, jadd, jsub, jmul, jneg, jtol, b010, b011, pv_2t, Int.toNat_natCast, Option.some.injEq, exists_eq_left', if_true, if_false, N, h6, h11, e1]
            exact nx fun z => c2 z.2
      by_cases c : e = 0
      · by_cases ct : t = 0
        · rw [if_pos ⟨c, ct⟩] at hE
          refine vs_ok 3 ?_
          rw [show ((gRes 17).drop 7).take 3 = [.iload 2, .iload 1, .ifCond .ne 12] from rfl]
          simp (disch := omega) only [vs_ifCond, vs_iload1, vs_iload2, vs_nil, gv_0, gv_1, gv_2, gv_3, pv_0, pv_1, va_rf_s, Nat.reduceDiv, Nat.reduceMod, Nat.reduceAdd, Nat.reduceMul, Int.reduceToNat, true_and, and_true, and_self, cP_eq, cP_ne, cP_lt, cP_ge, cP_gt, cP_le, eL_i, eL_l, eL_r, eL_n, Option.toList_none, Option.toList_some, List.nil_append, List.cons_append, kkI, llI, nnI, rrI, jjI, kkJ, llJ, nnJ, rrJ, iiJ, zIIs, zJJs, nEF, nET, and_false, false_and, jmin, jmax, catS_n, catS_i, catS_r, catS_l, Nat.reduceLeDiff, j1eq1, n21, jt0, jt1, Bool.false_eq_true, Classical.not_not, true_or, or_true, false_or, or_false, true_imp_iff, false_imp_iff, not_true_eq_false, not_false_eq_true, jif0, jif1, jifb, ltT, ltF, leT, leF, eqT, eqF, jlt, jle, jeq, jlt0, jle0, jeq0, jge0, jgt0, jinB, jnat, clt, cle, ceq, cgt, cge, lI_add, lI_sub, lI_mul, jadd, jsub, jmul, jneg, jtol, b010, b011, pv_2t, Int.toNat_natCast, Option.some.injEq, exists_eq_left', if_true, if_false]
          refine vs_ok 2 ?_
          rw [show ((gRes 17).drop 10).take 2 = [.iconst 1, .goto 13] from rfl]
          simp (disch := omega) only [vs_iconst, vs_goto, vs_nil, gv_0, gv_1, gv_2, gv_3, pv_0, pv_1, va_rf_s, Nat.reduceDiv, Nat.reduceMod, Nat.reduceAdd, Nat.reduceMul, Int.reduceToNat, true_and, and_true, and_self, cP_eq, cP_ne, cP_lt, cP_ge, cP_gt, cP_le, eL_i, eL_l, eL_r, eL_n, Option.toList_none, Option.toList_some, List.nil_append, List.cons_append, kkI, llI, nnI, rrI, jjI, kkJ, llJ, nnJ, rrJ, iiJ, zIIs, zJJs, nEF, nET, and_false, false_and, jmin, jmax, catS_n, catS_i, catS_r, catS_l, Nat.reduceLeDiff, j1eq1, n21, jt0, jt1, Bool.false_eq_true, Classical.not_not, true_or, or_true, false_or, or_false, true_imp_iff, false_imp_iff, not_true_eq_false, not_false_eq_true, jif0, jif1, jifb, ltT, ltF, leT, leF, eqT, eqF, jlt, jle, jeq, jlt0, jle0, jeq0, jge0, jgt0, jinB, jnat, clt, cle, ceq, cgt, cge, lI_add, lI_sub, lI_mul, jadd, jsub, jmul, jneg, jtol, b010, b011, pv_2t, Int.toNat_natCast, Option.some.injEq, exists_eq_left', if_true, if_false]
          refine vs_ok 1 ?_
          rw [show ((gRes 17).drop 13).take 1 = [.if_icmp .lt 47] from rfl]
          simp (disch := omega) only [vs_if_icmp, vs_nil, gv_0, gv_1, gv_2, gv_3, pv_0, pv_1, va_rf_s, Nat.reduceDiv, Nat.reduceMod, Nat.reduceAdd, Nat.reduceMul, Int.reduceToNat, true_and, and_true, and_self, cP_eq, cP_ne, cP_lt, cP_ge, cP_gt, cP_le, eL_i, eL_l, eL_r, eL_n, Option.toList_none, Option.toList_some, List.nil_append, List.cons_append, kkI, llI, nnI, rrI, jjI, kkJ, llJ, nnJ, rrJ, iiJ, zIIs, zJJs, nEF, nET, and_false, false_and, jmin, jmax, catS_n, catS_i, catS_r, catS_l, Nat.reduceLeDiff, j1eq1, n21, jt0, jt1, Bool.false_eq_true, Classical.not_not, true_or, or_true, false_or, or_false, true_imp_iff, false_imp_iff, not_true_eq_false, not_false_eq_true, jif0, jif1, jifb, ltT, ltF, leT, leF, eqT, eqF, jlt, jle, jeq, jlt0, jle0, jeq0, jge0, jgt0, jinB, jnat, clt, cle, ceq, cgt, cge, lI_add, lI_sub, lI_mul, jadd, jsub, jmul, jneg, jtol, b010, b011, pv_2t, Int.toNat_natCast, Option.some.injEq, exists_eq_left', if_true, if_false]
          exact done hE.symm _ _
        · refine vs_ok 3 ?_
          rw [show ((gRes 17).drop 7).take 3 = [.iload 2, .iload 1, .ifCond .ne 12] from rfl]
          simp (disch := omega) only [vs_ifCond, vs_iload1, vs_iload2, vs_nil, gv_0, gv_1, gv_2, gv_3, pv_0, pv_1, va_rf_s, Nat.reduceDiv, Nat.reduceMod, Nat.reduceAdd, Nat.reduceMul, Int.reduceToNat, true_and, and_true, and_self, cP_eq, cP_ne, cP_lt, cP_ge, cP_gt, cP_le, eL_i, eL_l, eL_r, eL_n, Option.toList_none, Option.toList_some, List.nil_append, List.cons_append, kkI, llI, nnI, rrI, jjI, kkJ, llJ, nnJ, rrJ, iiJ, zIIs, zJJs, nEF, nET, and_false, false_and, jmin, jmax, catS_n, catS_i, catS_r, catS_l, Nat.reduceLeDiff, j1eq1, n21, jt0, jt1, Bool.false_eq_true, Classical.not_not, true_or, or_true, false_or, or_false, true_imp_iff, false_imp_iff, not_true_eq_false, not_false_eq_true, jif0, jif1, jifb, ltT, ltF, leT, leF, eqT, eqF, jlt, jle, jeq, jlt0, jle0, jeq0, jge0, jgt0, jinB, jnat, clt, cle, ceq, cgt, cge, lI_add, lI_sub, lI_mul, jadd, jsub, jmul, jneg, jtol, b010, b011, pv_2t, Int.toNat_natCast, Option.some.injEq, exists_eq_left', if_true, if_false]
          refine vs_ok 2 ?_
          rw [show ((gRes 17).drop 10).take 2 = [.iconst 1, .goto 13] from rfl]
          simp (disch := omega) only [vs_iconst, vs_goto, vs_nil, gv_0, gv_1, gv_2, gv_3, pv_0, pv_1, va_rf_s, Nat.reduceDiv, Nat.reduceMod, Nat.reduceAdd, Nat.reduceMul, Int.reduceToNat, true_and, and_true, and_self, cP_eq, cP_ne, cP_lt, cP_ge, cP_gt, cP_le, eL_i, eL_l, eL_r, eL_n, Option.toList_none, Option.toList_some, List.nil_append, List.cons_append, kkI, llI, nnI, rrI, jjI, kkJ, llJ, nnJ, rrJ, iiJ, zIIs, zJJs, nEF, nET, and_false, false_and, jmin, jmax, catS_n, catS_i, catS_r, catS_l, Nat.reduceLeDiff, j1eq1, n21, jt0, jt1, Bool.false_eq_true, Classical.not_not, true_or, or_true, false_or, or_false, true_imp_iff, false_imp_iff, not_true_eq_false, not_false_eq_true, jif0, jif1, jifb, ltT, ltF, leT, leF, eqT, eqF, jlt, jle, jeq, jlt0, jle0, jeq0, jge0, jgt0, jinB, jnat, clt, cle, ceq, cgt, cge, lI_add, lI_sub, lI_mul, jadd, jsub, jmul, jneg, jtol, b010, b011, pv_2t, Int.toNat_natCast, Option.some.injEq, exists_eq_left', if_true, if_false]
          refine vs_ok 1 ?_
          rw [show ((gRes 17).drop 13).take 1 = [.if_icmp .lt 47] from rfl]
          simp (disch := omega) only [vs_if_icmp, vs_nil, gv_0, gv_1, gv_2, gv_3, pv_0, pv_1, va_rf_s, Nat.reduceDiv, Nat.reduceMod, Nat.reduceAdd, Nat.reduceMul, Int.reduceToNat, true_and, and_true, and_self, cP_eq, cP_ne, cP_lt, cP_ge, cP_gt, cP_le, eL_i, eL_l, eL_r, eL_n, Option.toList_none, Option.toList_some, List.nil_append, List.cons_append, kkI, llI, nnI, rrI, jjI, kkJ, llJ, nnJ, rrJ, iiJ, zIIs, zJJs, nEF, nET, and_false, false_and, jmin, jmax, catS_n, catS_i, catS_r, catS_l, Nat.reduceLeDiff, j1eq1, n21, jt0, jt1, Bool.false_eq_true, Classical.not_not, true_or, or_true, false_or, or_false, true_imp_iff, false_imp_iff, not_true_eq_false, not_false_eq_true, jif0, jif1, jifb, ltT, ltF, leT, leF, eqT, eqF, jlt, jle, jeq, jlt0, jle0, jeq0, jge0, jgt0, jinB, jnat, clt, cle, ceq, cgt, cge, lI_add, lI_sub, lI_mul, jadd, jsub, jmul, jneg, jtol, b010, b011, pv_2t, Int.toNat_natCast, Option.some.injEq, exists_eq_left', if_true, if_false]
          exact p14 fun z => ct z.2
      · refine vs_ok 3 ?_
        rw [show ((gRes 17).drop 7).take 3 = [.iload 2, .iload 1, .ifCond .ne 12] from rfl]
        simp (disch := omega) only [vs_ifCond, vs_iload1, vs_iload2, vs_nil, gv_0, gv_1, gv_2, gv_3, pv_0, pv_1, va_rf_s, Nat.reduceDiv, Nat.reduceMod, Nat.reduceAdd, Nat.reduceMul, Int.reduceToNat, true_and, and_true, and_self, cP_eq, cP_ne, cP_lt, cP_ge, cP_gt, cP_le, eL_i, eL_l, eL_r, eL_n, Option.toList_none, Option.toList_some, List.nil_append, List.cons_append, kkI, llI, nnI, rrI, jjI, kkJ, llJ, nnJ, rrJ, iiJ, zIIs, zJJs, nEF, nET, and_false, false_and, jmin, jmax, catS_n, catS_i, catS_r, catS_l, Nat.reduceLeDiff, j1eq1, n21, jt0, jt1, Bool.false_eq_true, Classical.not_not, true_or, or_true, false_or, or_false, true_imp_iff, false_imp_iff, not_true_eq_false, not_false_eq_true, jif0, jif1, jifb, ltT, ltF, leT, leF, eqT, eqF, jlt, jle, jeq, jlt0, jle0, jeq0, jge0, jgt0, jinB, jnat, clt, cle, ceq, cgt, cge, lI_add, lI_sub, lI_mul, jadd, jsub, jmul, jneg, jtol, b010, b011, pv_2t, Int.toNat_natCast, Option.some.injEq, exists_eq_left', if_true, if_false]
        refine vs_ok 1 ?_
        rw [show ((gRes 17).drop 12).take 1 = [.iconst 0] from rfl]
        simp (disch := omega) only [vs_iconst, vs_nil, gv_0, gv_1, gv_2, gv_3, pv_0, pv_1, va_rf_s, Nat.reduceDiv, Nat.reduceMod, Nat.reduceAdd, Nat.reduceMul, Int.reduceToNat, true_and, and_true, and_self, cP_eq, cP_ne, cP_lt, cP_ge, cP_gt, cP_le, eL_i, eL_l, eL_r, eL_n, Option.toList_none, Option.toList_some, List.nil_append, List.cons_append, kkI, llI, nnI, rrI, jjI, kkJ, llJ, nnJ, rrJ, iiJ, zIIs, zJJs, nEF, nET, and_false, false_and, jmin, jmax, catS_n, catS_i, catS_r, catS_l, Nat.reduceLeDiff, j1eq1, n21, jt0, jt1, Bool.false_eq_true, Classical.not_not, true_or, or_true, false_or, or_false, true_imp_iff, false_imp_iff, not_true_eq_false, not_false_eq_true, jif0, jif1, jifb, ltT, ltF, leT, leF, eqT, eqF, jlt, jle, jeq, jlt0, jle0, jeq0, jge0, jgt0, jinB, jnat, clt, cle, ceq, cgt, cge, lI_add, lI_sub, lI_mul, jadd, jsub, jmul, jneg, jtol, b010, b011, pv_2t, Int.toNat_natCast, Option.some.injEq, exists_eq_left', if_true, if_false]
        refine vs_ok 1 ?_
        rw [show ((gRes 17).drop 13).take 1 = [.if_icmp .lt 47] from rfl]
        simp (disch := omega) only [vs_if_icmp, vs_nil, gv_0, gv_1, gv_2, gv_3, pv_0, pv_1, va_rf_s, Nat.reduceDiv, Nat.reduceMod, Nat.reduceAdd, Nat.reduceMul, Int.reduceToNat, true_and, and_true, and_self, cP_eq, cP_ne, cP_lt, cP_ge, cP_gt, cP_le, eL_i, eL_l, eL_r, eL_n, Option.toList_none, Option.toList_some, List.nil_append, List.cons_append, kkI, llI, nnI, rrI, jjI, kkJ, llJ, nnJ, rrJ, iiJ, zIIs, zJJs, nEF, nET, and_false, false_and, jmin, jmax, catS_n, catS_i, catS_r, catS_l, Nat.reduceLeDiff, j1eq1, n21, jt0, jt1, Bool.false_eq_true, Classical.not_not, true_or, or_true, false_or, or_false, true_imp_iff, false_imp_iff, not_true_eq_false, not_false_eq_true, jif0, jif1, jifb, ltT, ltF, leT, leF, eqT, eqF, jlt, jle, jeq, jlt0, jle0, jeq0, jge0, jgt0, jinB, jnat, clt, cle, ceq, cgt, cge, lI_add, lI_sub, lI_mul, jadd, jsub, jmul, jneg, jtol, b010, b011, pv_2t, Int.toNat_natCast, Option.some.injEq, exists_eq_left', if_true, if_false]
        exact p14 fun z => c z.1
  refine vs_ok 7 ?_
  rw [show ((gRes 17).drop 0).take 7 = [.aload 0, .getfield 1042, .iload 1, .iaload, .iconst 1, .isub, .istore 2] from rfl]
  simp (disch := omega) only [vs_isub, vs_iconst, vs_getfield, vs_iaload, vs_aload0, vs_iload1, vs_istore2n, vs_istore2i, vs_istore2r, vs_istore2l, vs_nil, gv_0, gv_1, gv_2, gv_3, pv_0, pv_1, va_rf_s, Nat.reduceDiv, Nat.reduceMod, Nat.reduceAdd, Nat.reduceMul, Int.reduceToNat, true_and, and_true, and_self, cP_eq, cP_ne, cP_lt, cP_ge, cP_gt, cP_le, eL_i, eL_l, eL_r, eL_n, Option.toList_none, Option.toList_some, List.nil_append, List.cons_append, kkI, llI, nnI, rrI, jjI, kkJ, llJ, nnJ, rrJ, iiJ, zIIs, zJJs, nEF, nET, and_false, false_and, jmin, jmax, catS_n, catS_i, catS_r, catS_l, Nat.reduceLeDiff, j1eq1, n21, jt0, jt1, Bool.false_eq_true, Classical.not_not, true_or, or_true, false_or, or_false, true_imp_iff, false_imp_iff, not_true_eq_false, not_false_eq_true, jif0, jif1, jifb, ltT, ltF, leT, leF, eqT, eqF, jlt, jle, jeq, jlt0, jle0, jeq0, jge0, jgt0, jinB, jnat, clt, cle, ceq, cgt, cge, lI_add, lI_sub, lI_mul, jadd, jsub, jmul, jneg, jtol, b010, b011, pv_2t, Int.toNat_natCast, Option.some.injEq, exists_eq_left', if_true, if_false, N, te.2]
  exact lp (tr e) _ (Nat.le_refl _) rfl
