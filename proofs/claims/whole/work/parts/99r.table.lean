/-! DiceRing: table -/
/-- what a Teller at t needs (its table to, its Reader's value va) -/
def tlO (h : Hp) (t to nm : Nat) (va : Int) (st : List RowVal) (tm : Bool) (F Wd : Nat → Int) (V : Nat → RowVal) : Prop := teO h t to ∧ (zK h (t + 1) = 5 ∧ zI h (t + 1) 4 = iI va ∧ 0 ≤ va ∧ va ≤ 400000000) ∧ bnS h (t + 3) st tm ∧ isTb h to nm F Wd ∧ (∀ k, k < 12 → rowP h (to + 4 + 2 * k) 200 (V k)) ∧ ∀ i, i < 12 → i32 (Wd i)
abbrev tbC (x to : Nat) : Nat → Prop := fun q => q = x ∨ teB (x + 30) to q
theorem tlO.keep {S : Nat → Prop} {h g : Hp} {t to nm : Nat} {va : Int} {st : List RowVal} {tm : Bool} {F Wd : Nat → Int} {V : Nat → RowVal} (o : tlO h t to nm va st tm F Wd V) (f : fr S h g) (hs : ∀ q, S q → ¬ (t ≤ q ∧ q < t + 59) ∧ ¬ (to ≤ q ∧ q < to + 28)) : tlO g t to nm va st tm F Wd V := by
  obtain ⟨⟨o1, o2, o3, o4, o5⟩, ⟨r1, r2, r3⟩, b, tb, rw0, wb⟩ := o
  have n1 : ¬ S t := fun z => (hs _ z).1 (by omega)
  have n2 : ¬ S (t + 1) := fun z => (hs _ z).1 (by omega)
  refine ⟨⟨by rw [f.1]; exact o1, by rw [f.2.2.1]; exact o2, ?_, ?_, ?_⟩, ⟨by rw [f.1]; exact r1, by rw [f.2.2.2.2.2.1 _ n2]; exact r2, r3⟩, b.keep f (fun q z => by have := (hs q z).1; unfold bnA; omega), tb.keep f (fun q z => (hs q z).2), fun k hk => (rw0 k hk).keep f (fun z => (hs _ z).2 (by omega)) (fun z => (hs _ z).2 (by omega)), wb⟩
  · rw [f.2.2.2.2.2.2.2 _ n1]; exact o3
  · rw [f.2.2.2.2.2.2.2 _ n1]; exact o4
  · rw [f.2.2.2.2.2.2.2 _ n1]; exact o5
/-- the ends of table -/
theorem t_tableBad {d : Nat} {g : Hp} {x t : Nat} {p : Int} {o : Option Value} {Q : Nat → Option Value → Hp → Prop} (N : zK g x = 11 ∧ x < zN g) (y3 : zR g x 3 = some t) (k8 : zK g t = 8 ∧ t < zN g) (e6 : zI g t 6 = iI p) (hq : Q 0 (some (.int (iI (-1 - p)))) g) : PW d 142 14 [some (.ref x), o] [] g Q := by
  refine vs_ok 4 ?_
  rw [show ((gRes 142).drop 14).take 4 = [.iconst (-1), .aload 0, .getfield 11032, .getfield 8060] from rfl]
  simp (disch := omega) only [vs_iconst, vs_getfield, vs_aload0, vs_nil, gv_0, gv_1, gv_2, gv_3, pv_0, pv_1, va_rf_s, Nat.reduceDiv, Nat.reduceMod, Nat.reduceAdd, Nat.reduceMul, Int.reduceToNat, true_and, and_true, and_self, cP_eq, cP_ne, cP_lt, cP_ge, cP_gt, cP_le, eL_i, eL_l, eL_r, eL_n, Option.toList_none, Option.toList_some, List.nil_append, List.cons_append, kkI, llI, nnI, rrI, jjI, kkJ, llJ, nnJ, rrJ, iiJ, zIIs, zJJs, nEF, nET, and_false, false_and, jmin, jmax, catS_n, catS_i, catS_r, catS_l, Nat.reduceLeDiff, j1eq1, n21, jt0, jt1, Bool.false_eq_true, Classical.not_not, true_or, or_true, false_or, or_false, true_imp_iff, false_imp_iff, not_true_eq_false, not_false_eq_true, jif0, jif1, jifb, ltT, ltF, leT, leF, eqT, eqF, jlt, jle, jeq, jlt0, jle0, jeq0, jge0, jgt0, jinB, jnat, clt, cle, ceq, cgt, cge, lI_add, lI_sub, lI_mul, jadd, jsub, jmul, jneg, jtol, b010, b011, pv_2t, Int.toNat_natCast, Option.some.injEq, exists_eq_left', if_true, if_false, N, y3, k8, e6]
  refine vs_ok 2 ?_
  rw [show ((gRes 142).drop 18).take 2 = [.isub, .ireturn] from rfl, vs_isub, vs_ireturn]
  refine ⟨Or.inl rfl, ?_⟩
  rw [jsub]
  exact hq
theorem t_tableGood {d : Nat} {g : Hp} {x to p : Nat} {o : Option Value} {Q : Nat → Option Value → Hp → Prop} (N : zK g x = 11 ∧ x < zN g) (k7 : zK g to = 7 ∧ to < zN g) (z7 : zI g to 3 = iI p) (nx : to ≠ x) (hq : Q 0 (some (.int (iI p))) (zsI (zsR g x 2 (some to)) x 6 (iI 1))) : PW d 142 26 [some (.ref x), o] [.ref to, .ref x] g Q := by
  refine vs_ok 8 ?_
  rw [show ((gRes 142).drop 26).take 8 = [.putfield 11022, .aload 0, .iconst 1, .putfield 11063, .aload 0, .getfield 11022, .getfield 7030, .ireturn] from rfl]
  simp (disch := omega) only [vs_iconst, vs_getfield, vs_putfield, vs_ireturn, vs_aload0, vs_nil, gv_0, gv_1, gv_2, gv_3, pv_0, pv_1, va_rf_s, Nat.reduceDiv, Nat.reduceMod, Nat.reduceAdd, Nat.reduceMul, Int.reduceToNat, true_and, and_true, and_self, cP_eq, cP_ne, cP_lt, cP_ge, cP_gt, cP_le, eL_i, eL_l, eL_r, eL_n, Option.toList_none, Option.toList_some, List.nil_append, List.cons_append, kkI, llI, nnI, rrI, jjI, kkJ, llJ, nnJ, rrJ, iiJ, zIIs, zJJs, nEF, nET, and_false, false_and, jmin, jmax, catS_n, catS_i, catS_r, catS_l, Nat.reduceLeDiff, j1eq1, n21, jt0, jt1, Bool.false_eq_true, Classical.not_not, true_or, or_true, false_or, or_false, true_imp_iff, false_imp_iff, not_true_eq_false, not_false_eq_true, jif0, jif1, jifb, ltT, ltF, leT, leF, eqT, eqF, jlt, jle, jeq, jlt0, jle0, jeq0, jge0, jgt0, jinB, jnat, clt, cle, ceq, cgt, cge, lI_add, lI_sub, lI_mul, jadd, jsub, jmul, jneg, jtol, b010, b011, pv_2t, Int.toNat_natCast, Option.some.injEq, exists_eq_left', if_true, if_false, N, k7, z7, pv_2t, pv_31, zR_sR, kkR, nnR, iiR, show gRc 142 = 1 from rfl]
  exact hq
theorem t_table {D : Nat} {h : Hp} {x t to len nm0 : Nat} {va : Int} {B : Nat → Int} {st : List RowVal} {tm : Bool} {F Wd : Nat → Int} {V : Nat → RowVal} {R : TRes} {Q : Nat → Option Value → Hp → Prop} (ht : tpS h x len B) (h2 : zR h x 2 = some t) (y3 : zR h x 3 = some (x + 30)) (ho : tlO h (x + 30) to nm0 va st tm F Wd V) (ht7 : zK h t = 7 ∧ t < zN h) (d1 : to = x + 2 ∧ t = x + 89 ∨ to = x + 89 ∧ t = x + 2) (hR : tlS B len 13 0 F Wd V (adF B len 0 va) = some R) (hfk : i32 R.1)
    (hT : R.1 = 0 → ∀ g va' st2 tm2, fr (tbC x to) h g → tpS g x 0 B → zI g x 4 = iI 0 → zI g x 6 = iI 1 → (∀ i, i ≠ 1 → i ≠ 4 → i ≠ 6 → zI g x i = zI h x i) → zR g x 2 = some to → (∀ i, i ≠ 2 → zR g x i = zR h x i) → teO g (x + 30) t → (zK g (x + 31) = 5 ∧ zI g (x + 31) 4 = iI va' ∧ 0 ≤ va' ∧ va' ≤ 400000000) → bnS g (x + 33) st2 tm2 → isTb g to R.2.2.1 R.2.2.2.1 R.2.2.2.2.1 → (∀ k, k < 12 → rowP g (to + 4 + 2 * k) 200 (R.2.2.2.2.2 k)) → (∀ i, i < 12 → i32 (R.2.2.2.2.1 i)) → (∀ k, k < R.2.2.1 → gV (R.2.2.2.2.2 k)) → Q 0 (some (.int (iI R.2.2.1))) g)
    (hF : R.1 ≠ 0 → ∀ g va' st2 tm2 nm2 F2 Wd2 V2, fr (tbC x to) h g → tpS g x 0 B → zI g x 4 = iI R.1 → (∀ i, i ≠ 1 → i ≠ 4 → zI g x i = zI h x i) → (∀ i, zR g x i = zR h x i) → tlO g (x + 30) to nm2 va' st2 tm2 F2 Wd2 V2 → Q 0 (some (.int (iI (-1 - R.2.1)))) g) : PR (D + 123) m_D_table [.ref x] h Q := by
  have N := ht.1
  have hm := ht.2.2.1
  show PW (D + 123) 142 0 [some (.ref x), none] [] h Q
  refine vs_ok 1 ?_
  rw [show ((gRes 142).drop 0).take 1 = [.aload 0] from rfl]
  simp (disch := omega) only [vs_aload0, vs_nil, gv_0, gv_1, gv_2, gv_3, pv_0, pv_1, va_rf_s, Nat.reduceDiv, Nat.reduceMod, Nat.reduceAdd, Nat.reduceMul, Int.reduceToNat, true_and, and_true, and_self, cP_eq, cP_ne, cP_lt, cP_ge, cP_gt, cP_le, eL_i, eL_l, eL_r, eL_n, Option.toList_none, Option.toList_some, List.nil_append, List.cons_append, kkI, llI, nnI, rrI, jjI, kkJ, llJ, nnJ, rrJ, iiJ, zIIs, zJJs, nEF, nET, and_false, false_and, jmin, jmax, catS_n, catS_i, catS_r, catS_l, Nat.reduceLeDiff, j1eq1, n21, jt0, jt1, Bool.false_eq_true, Classical.not_not, true_or, or_true, false_or, or_false, true_imp_iff, false_imp_iff, not_true_eq_false, not_false_eq_true, jif0, jif1, jifb, ltT, ltF, leT, leF, eqT, eqF, jlt, jle, jeq, jlt0, jle0, jeq0, jge0, jgt0, jinB, jnat, clt, cle, ceq, cgt, cge, lI_add, lI_sub, lI_mul, jadd, jsub, jmul, jneg, jtol, b010, b011, pv_2t, Int.toNat_natCast, Option.some.injEq, exists_eq_left', if_true, if_false]
  refine PW.iv rfl rfl rfl N.1.1 N.1.2 (le_b rfl) (le_b rfl) ?_
  refine t_takeTape ht fun g f t' e => ⟨rfl, ⟨f.1.2.2.1, rfl⟩, ?_⟩
  have N1 := t'.1
  have y3' : zR g x 3 = some (x + 30) := by rw [f.2]; exact y3
  have h2' : zR g x 2 = some t := by rw [f.2]; exact h2
  have fX : fr (tbC x to) h g := f.1.wk fun q z => Or.inl z
  have eR : zR g x = zR h x := by rw [f.2]
  have o1 := ho.keep f.1 (fun q z => by omega)
  obtain ⟨p1, ⟨p2, p3, p4⟩, p5, p6, p7, p8⟩ := o1
  have t8 : zK g (x + 30) = 8 ∧ x + 30 < zN g := ⟨p1.1, by have := p1.2.1; omega⟩
  refine vs_ok 7 ?_
  rw [show ((gRes 142).drop 2).take 7 = [.istore 1, .aload 0, .aload 0, .getfield 11032, .aload 0, .getfield 11002, .iload 1] from rfl]
  simp (disch := omega) only [vs_getfield, vs_aload0, vs_iload1, vs_istore1n, vs_istore1i, vs_istore1r, vs_istore1l, vs_nil, gv_0, gv_1, gv_2, gv_3, pv_0, pv_1, va_rf_s, Nat.reduceDiv, Nat.reduceMod, Nat.reduceAdd, Nat.reduceMul, Int.reduceToNat, true_and, and_true, and_self, cP_eq, cP_ne, cP_lt, cP_ge, cP_gt, cP_le, eL_i, eL_l, eL_r, eL_n, Option.toList_none, Option.toList_some, List.nil_append, List.cons_append, kkI, llI, nnI, rrI, jjI, kkJ, llJ, nnJ, rrJ, iiJ, zIIs, zJJs, nEF, nET, and_false, false_and, jmin, jmax, catS_n, catS_i, catS_r, catS_l, Nat.reduceLeDiff, j1eq1, n21, jt0, jt1, Bool.false_eq_true, Classical.not_not, true_or, or_true, false_or, or_false, true_imp_iff, false_imp_iff, not_true_eq_false, not_false_eq_true, jif0, jif1, jifb, ltT, ltF, leT, leF, eqT, eqF, jlt, jle, jeq, jlt0, jle0, jeq0, jge0, jgt0, jinB, jnat, clt, cle, ceq, cgt, cge, lI_add, lI_sub, lI_mul, jadd, jsub, jmul, jneg, jtol, b010, b011, pv_2t, Int.toNat_natCast, Option.some.injEq, exists_eq_left', if_true, if_false, N1, y3']
  refine PW.iv rfl rfl rfl t8.1 t8.2 (le_b rfl) (le_b rfl) ?_
  refine t_tell (D := D) (R := R) p1 p2 p3 p4 ⟨N1.2.2.1, N1.2.2.2.1, N1.2.2.2.2, t'.2.2.2.1, t'.2.2.2.2⟩ (by omega) p5 p6 p7 (by omega) (by omega) (by omega) p8 hR hfk (fun z g2 s st2 tm2 f2 s2 gv => ⟨rfl, ⟨f2.2.2.1, rfl⟩, ?_⟩) (fun z g2 s st2 tm2 nm2 F2 Wd2 V2 f2 s2 e6 => ⟨rfl, ⟨f2.2.2.1, rfl⟩, ?_⟩)
  · have nx : ¬ teB (x + 30) to x := by unfold teB teA tbA; omega
    have n1 : ¬ teB (x + 30) to (x + 1) := by unfold teB teA tbA; omega
    have N2 : zK g2 x = 11 ∧ x < zN g2 := ⟨by rw [f2.1]; exact N1.1.1, by rw [f2.2.2.1]; exact N1.1.2⟩
    have rx := f2.2.2.2.2.2.2.2 x nx
    have ix := f2.2.2.2.2.2.1 x nx
    have y3'' : zR g2 x 3 = some (x + 30) := by rw [rx]; exact y3'
    have h2'' : zR g2 x 2 = some t := by rw [rx]; exact h2'
    have T2 := teF s2
    refine vs_ok 4 ?_
    rw [show ((gRes 142).drop 10).take 4 = [.putfield 11040, .aload 0, .getfield 11040, .ifCond .eq 20] from rfl]
    simp (disch := omega) only [vs_ifCond, vs_getfield, vs_putfield, vs_aload0, vs_nil, gv_0, gv_1, gv_2, gv_3, pv_0, pv_1, va_rf_s, Nat.reduceDiv, Nat.reduceMod, Nat.reduceAdd, Nat.reduceMul, Int.reduceToNat, true_and, and_true, and_self, cP_eq, cP_ne, cP_lt, cP_ge, cP_gt, cP_le, eL_i, eL_l, eL_r, eL_n, Option.toList_none, Option.toList_some, List.nil_append, List.cons_append, kkI, llI, nnI, rrI, jjI, kkJ, llJ, nnJ, rrJ, iiJ, zIIs, zJJs, nEF, nET, and_false, false_and, jmin, jmax, catS_n, catS_i, catS_r, catS_l, Nat.reduceLeDiff, j1eq1, n21, jt0, jt1, Bool.false_eq_true, Classical.not_not, true_or, or_true, false_or, or_false, true_imp_iff, false_imp_iff, not_true_eq_false, not_false_eq_true, jif0, jif1, jifb, ltT, ltF, leT, leF, eqT, eqF, jlt, jle, jeq, jlt0, jle0, jeq0, jge0, jgt0, jinB, jnat, clt, cle, ceq, cgt, cge, lI_add, lI_sub, lI_mul, jadd, jsub, jmul, jneg, jtol, b010, b011, pv_2t, Int.toNat_natCast, Option.some.injEq, exists_eq_left', if_true, if_false, N2]
    refine vs_ok 5 ?_
    rw [show ((gRes 142).drop 20).take 5 = [.aload 0, .aload 0, .getfield 11032, .aload 0, .getfield 11022] from rfl]
    simp (disch := omega) only [vs_getfield, vs_aload0, vs_nil, gv_0, gv_1, gv_2, gv_3, pv_0, pv_1, va_rf_s, Nat.reduceDiv, Nat.reduceMod, Nat.reduceAdd, Nat.reduceMul, Int.reduceToNat, true_and, and_true, and_self, cP_eq, cP_ne, cP_lt, cP_ge, cP_gt, cP_le, eL_i, eL_l, eL_r, eL_n, Option.toList_none, Option.toList_some, List.nil_append, List.cons_append, kkI, llI, nnI, rrI, jjI, kkJ, llJ, nnJ, rrJ, iiJ, zIIs, zJJs, nEF, nET, and_false, false_and, jmin, jmax, catS_n, catS_i, catS_r, catS_l, Nat.reduceLeDiff, j1eq1, n21, jt0, jt1, Bool.false_eq_true, Classical.not_not, true_or, or_true, false_or, or_false, true_imp_iff, false_imp_iff, not_true_eq_false, not_false_eq_true, jif0, jif1, jifb, ltT, ltF, leT, leF, eqT, eqF, jlt, jle, jeq, jlt0, jle0, jeq0, jge0, jgt0, jinB, jnat, clt, cle, ceq, cgt, cge, lI_add, lI_sub, lI_mul, jadd, jsub, jmul, jneg, jtol, b010, b011, pv_2t, Int.toNat_natCast, Option.some.injEq, exists_eq_left', if_true, if_false, N2, y3'', h2'']
    have f3 : fr (fun q => q = x) g2 (zsI g2 x 4 (iI 0)) := fr_I rfl
    have to2 : to < zN g2 := by rw [f2.2.2.1]; have := p6.2.1; omega
    have t2 : t < zN g2 := by rw [f2.2.2.1, f.1.2.2.1]; exact ht7.2
    refine PW.iv rfl rfl rfl T2.1.1 T2.1.2.1 (le_b rfl) (le_b rfl) ?_
    refine t_handOver (now := t) s2.1 to2 t2 fun g4 f4 e4 o4 => ⟨rfl, ⟨f4.2.2.1, rok (by rw [f4.2.2.1]; exact to2)⟩, ?_⟩
    have kx : zK g4 x = 11 := by rw [f4.1]; exact N2.1
    have nx4 : x < zN g4 := by rw [f4.2.2.1]; exact N2.2
    have to4 : to < zN g4 := by rw [f4.2.2.1]; exact to2
    have f24 : fr (fun q => q = x ∨ q = x + 30) g2 g4 := (f3.wk fun q z => Or.inl z).tr (f4.wk fun q z => Or.inr z)
    have tb4 : isTb g4 to R.2.2.1 R.2.2.2.1 R.2.2.2.2.1 := s2.2.2.2.2.1.keep f24 (fun q z => by omega)
    have k7 := tb4.1
    have z7 := tb4.2.2.2.2.2.1
    have rw4 : ∀ k, k < 12 → rowP g4 (to + 4 + 2 * k) 200 (R.2.2.2.2.2 k) := fun k hk => (s2.2.2.2.2.2.1 k hk).keep f24 (by omega) (by omega)
    have bn4 : bnS g4 (x + 33) st2 tm2 := s2.2.2.2.1.keep f24 (fun q z => by unfold bnA; omega)
    have wb4 : ∀ i, i < 12 → i32 (R.2.2.2.2.1 i) := s2.2.2.2.2.2.2.2.2.2
    have rd := s2.2.1
    have k31 : zK g4 (x + 31) = 5 := by rw [f24.1]; exact rd.1
    have i31 : zI g4 (x + 31) 4 = iI s.2.2.1 := by rw [f24.2.2.2.2.2.1 _ (by omega)]; exact rd.2.2.2.2.2.2.2.2.1
    have vb := s2.2.2.1.2.2.1
    have i4 : ∀ i, zI g4 x i = if i = 4 then iI 0 else zI g x i := fun i => by
      rw [f4.2.2.2.2.2.1 x (by omega), zI_s, ix]
      by_cases c : i = 4
      · rw [if_pos ⟨rfl, c⟩, if_pos c]
      · rw [if_neg fun z => c z.2, if_neg c]
    have r4 : zR g4 x = zR h x := by rw [f4.2.2.2.2.2.2.2 x (by omega)]; show zR g2 x = _; rw [rx, eR]
    have j4 : ∀ i, i < 540 → zI g4 (x + 1) i = iI (B i) := fun i hi => by
      rw [f24.2.2.2.2.2.1 _ (by omega), f2.2.2.2.2.2.1 _ n1]
      exact t'.2.2.2.1 i hi
    have F4 : fr (tbC x to) h g4 := fX.tr ((f2.wk fun q z => Or.inr z).tr (f24.wk fun q z => by
      rcases z with z | z
      · exact Or.inl z
      · exact Or.inr (Or.inl (by unfold teA; omega))))
    clear f3 e4
    have f5 : fr (fun q => q = x) g4 (zsI (zsR g4 x 2 (some to)) x 6 (iI 1)) := (fr_R (S := fun q => q = x) rfl).tr (fr_I (S := fun q => q = x) rfl)
    have I5 : ∀ i, zI (zsI (zsR g4 x 2 (some to)) x 6 (iI 1)) x i = if i = 6 then iI 1 else if i = 4 then iI 0 else zI g x i := fun i => by
      rw [zI_s]
      by_cases c : i = 6
      · rw [if_pos ⟨rfl, c⟩, if_pos c]
      · rw [if_neg fun z => c z.2, if_neg c]
        exact i4 i
    have R5 : ∀ i, zR (zsI (zsR g4 x 2 (some to)) x 6 (iI 1)) x i = if i = 2 then some to else zR h x i := fun i => by
      show zR (zsR g4 x 2 (some to)) x i = _
      rw [zR_sR, r4]
      by_cases c : i = 2
      · rw [if_pos ⟨rfl, c⟩, if_pos c]
      · rw [if_neg fun z => c z.2, if_neg c]
    refine t_tableGood ⟨kx, nx4⟩ ⟨k7, to4⟩ z7 (by omega) ?_
    generalize zsI (zsR g4 x 2 (some to)) x 6 (iI 1) = g5 at *
    have r5 := f5.2.2.2.2.2.2.2
    refine hT z g5 s.2.2.1 st2 tm2 (F4.tr (f5.wk fun q z => Or.inl z)) ?_ (by rw [I5, if_neg (by omega), if_pos rfl]) (by rw [I5, if_pos rfl]) (fun i h1 h4 h6 => by rw [I5, if_neg h6, if_neg h4]; exact e i h1) (by rw [R5, if_pos rfl]) (fun i hi => by rw [R5, if_neg hi]) ⟨by rw [f5.1]; exact o4.1, by rw [f5.2.2.1]; exact o4.2.1, by rw [r5 _ (by omega)]; exact o4.2.2.1, by rw [r5 _ (by omega)]; exact o4.2.2.2.1, by rw [r5 _ (by omega)]; exact o4.2.2.2.2⟩ ⟨by rw [f5.1]; exact k31, by rw [f5.2.2.2.2.2.1 _ (by omega)]; exact i31, vb⟩ (bn4.keep f5 (fun q z => by unfold bnA; omega)) (tb4.keep f5 (fun q z => by omega)) (fun k hk => (rw4 k hk).keep f5 (by omega) (by omega)) wb4 gv
    exact ⟨⟨⟨by rw [f5.1]; exact kx, by rw [f5.2.2.1]; exact nx4⟩, by rw [R5, if_neg (by omega), ← eR]; exact N1.2.1, by rw [f5.1, f24.1, f2.1]; exact N1.2.2.1, by rw [f5.2.2.1, f24.2.2.1, f2.2.2.1]; exact N1.2.2.2.1, by rw [f5.2.1, f24.2.1, f2.2.1]; exact N1.2.2.2.2⟩, by rw [I5, if_neg (by omega), if_neg (by omega)]; exact t'.2.1, by omega, fun i hi => by rw [f5.2.2.2.2.2.1 _ (by omega)]; exact j4 i hi, t'.2.2.2.2⟩
  · have nx : ¬ teB (x + 30) to x := by unfold teB teA tbA; omega
    have n1 : ¬ teB (x + 30) to (x + 1) := by unfold teB teA tbA; omega
    have N2 : zK g2 x = 11 ∧ x < zN g2 := ⟨by rw [f2.1]; exact N1.1.1, by rw [f2.2.2.1]; exact N1.1.2⟩
    have rx := f2.2.2.2.2.2.2.2 x nx
    have ix := f2.2.2.2.2.2.1 x nx
    have y3'' : zR g2 x 3 = some (x + 30) := by rw [rx]; exact y3'
    have T2 := teF s2
    have e6' : zI g2 (x + 30) 6 = iI R.2.1 := e6
    have k8 : zK g2 (x + 30) = 8 ∧ x + 30 < zN g2 := ⟨T2.1.1, T2.1.2.1⟩
    refine vs_ok 4 ?_
    rw [show ((gRes 142).drop 10).take 4 = [.putfield 11040, .aload 0, .getfield 11040, .ifCond .eq 20] from rfl]
    simp (disch := omega) only [vs_ifCond, vs_getfield, vs_putfield, vs_aload0, vs_nil, gv_0, gv_1, gv_2, gv_3, pv_0, pv_1, va_rf_s, Nat.reduceDiv, Nat.reduceMod, Nat.reduceAdd, Nat.reduceMul, Int.reduceToNat, true_and, and_true, and_self, cP_eq, cP_ne, cP_lt, cP_ge, cP_gt, cP_le, eL_i, eL_l, eL_r, eL_n, Option.toList_none, Option.toList_some, List.nil_append, List.cons_append, kkI, llI, nnI, rrI, jjI, kkJ, llJ, nnJ, rrJ, iiJ, zIIs, zJJs, nEF, nET, and_false, false_and, jmin, jmax, catS_n, catS_i, catS_r, catS_l, Nat.reduceLeDiff, j1eq1, n21, jt0, jt1, Bool.false_eq_true, Classical.not_not, true_or, or_true, false_or, or_false, true_imp_iff, false_imp_iff, not_true_eq_false, not_false_eq_true, jif0, jif1, jifb, ltT, ltF, leT, leF, eqT, eqF, jlt, jle, jeq, jlt0, jle0, jeq0, jge0, jgt0, jinB, jnat, clt, cle, ceq, cgt, cge, lI_add, lI_sub, lI_mul, jadd, jsub, jmul, jneg, jtol, b010, b011, pv_2t, Int.toNat_natCast, Option.some.injEq, exists_eq_left', if_true, if_false, N2]
    refine t_tableBad (t := x + 30) N2 y3'' k8 (by rw [zI_s, if_neg (by omega)]; exact e6') ?_
    have f3 : fr (fun q => q = x) g2 (zsI g2 x 4 (iI R.1)) := fr_I rfl
    refine hF z _ s.2.2.1 st2 tm2 nm2 F2 Wd2 V2 (fX.tr ((f2.wk fun q z => Or.inr z).tr (f3.wk fun q z => Or.inl z))) ?_ (by rw [zI_s, if_pos ⟨rfl, rfl⟩]) (fun i h1 h4 => by rw [zI_s, if_neg fun z => h4 z.2, ix]; exact e i h1) (fun i => by show zR g2 x i = _; rw [rx, eR]) ?_
    · exact ⟨⟨N2, by show zR g2 x 0 = _; rw [rx]; exact N1.2.1, by show zK g2 (x + 1) = _; rw [f2.1]; exact N1.2.2.1, by show x + 1 < zN g2; rw [f2.2.2.1]; exact N1.2.2.2.1, by show zL g2 (x + 1) = _; rw [f2.2.1]; exact N1.2.2.2.2⟩, by rw [zI_s, if_neg (by omega), ix]; exact t'.2.1, by omega, fun i hi => by rw [zI_s, if_neg (by omega), f2.2.2.2.2.2.1 _ n1]; exact t'.2.2.2.1 i hi, t'.2.2.2.2⟩
    · have o2 : tlO g2 (x + 30) to nm2 s.2.2.1 st2 tm2 F2 Wd2 V2 := ⟨s2.1, ⟨s2.2.1.1, s2.2.1.2.2.2.2.2.2.2.2.1, s2.2.2.1.2.2.1⟩, s2.2.2.2.1, s2.2.2.2.2.1, s2.2.2.2.2.2.1, s2.2.2.2.2.2.2.2.2.2⟩
      exact o2.keep f3 (fun q z => by omega)
