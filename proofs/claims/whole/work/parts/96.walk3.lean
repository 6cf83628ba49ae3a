/-! FaceSearch: walk, addUp -/
noncomputable abbrev rtW (c : Nat → Int) (p q dp : Nat) : List Pth × Nat := enW c p q dp (ndW c p q dp 60) [] (p + 1)
theorem lF_nil (c : Nat → Int) : lF c [] = c := by
  funext k
  show c k - 0 = c k
  omega
theorem t_walk {D : Nat} {h : Hp} {x p q dp : Nat} {c : Nat → Int} {tr : Nat → Nat} {J : List Pth → Hp → Prop} {Q : Nat → Option Value → Hp → Prop} (hc : cOK c) (hp : p ≤ 64) (hq64 : q ≤ 64) (hdp : dp ≤ 60)
    (hJ : ∀ L g g2, J L g → fi (seS x) g g2 → (∀ i, i ≠ 10 → i ≠ 11 → zI g2 x i = zI g x i) → J L g2)
    (hAdd : ∀ (L : List Pth) (P : Pth) (g : Hp) (tr : Nat → Nat) (Q : Nat → Option Value → Hp → Prop), P.length ≤ 61 → sX P = p → sY P = q → fsC g x p q (lF c P) (fX P) (fY P) tr (sX P) (sY P) → zI g x 9 = iI dp → J L g → (∀ g2, fi (fun q => x ≤ q ∧ q ≤ x + 4) g g2 → (∀ i, i ≠ 12 → zI g2 x i = zI g x i) → J (L ++ [P]) g2 → Q 0 none g2) → PR (D + 10) m_FaceSearch_addFound [.ref x] g Q)
    (hs : fsC h x p q c (fun _ => 0) (fun _ => 0) tr 0 0) (h9 : zI h x 9 = iI dp) (hJ0 : J [] h) (hst : (rtW c p q dp).2 ≤ 100000000)
    (hq : ∀ g, fi (fsA x) h g → J (rtW c p q dp).1 g → (∃ tr2 : Nat → Nat, ∀ i, i < 61 → tr2 i ≤ 65 ∧ zI g (x + 8) i = iI (tr2 i)) → Q 0 none g) : PR (D + 11) m_FaceSearch_walk [.ref x] h Q := by
  have N := fsF hs.1
  obtain ⟨-, a5, a6, al, ax, ay, at9, a10, a11⟩ := id hs
  have e1 : (p : Int) + 1 = ((p + 1 : Nat) : Int) := by omega
  have t0 : ((0 : Int)).toNat = 0 := rfl
  show PW (D + 11) 16 0 [some (.ref x), none, none] [] h Q
  refine vs_ok 12 ?_
  rw [show ((gRes 16).drop 0).take 12 = [.iconst 0, .istore 1, .aload 0, .getfield 1042, .iconst 0, .aload 0, .getfield 1050, .iconst 1, .iadd, .iastore, .iconst 0, .istore 2] from rfl]
  simp (disch := omega) only [vs_iadd, vs_iconst, vs_getfield, vs_iastore, vs_aload0, vs_istore1n, vs_istore1i, vs_istore1r, vs_istore1l, vs_istore2n, vs_istore2i, vs_istore2r, vs_istore2l, vs_nil, gv_0, gv_1, gv_2, gv_3, pv_0, pv_1, va_rf_s, Nat.reduceDiv, Nat.reduceMod, Nat.reduceAdd, Nat.reduceMul, Int.reduceToNat, true_and, and_true, and_self, cP_eq, cP_ne, cP_lt, cP_ge, cP_gt, cP_le, eL_i, eL_l, eL_r, eL_n, Option.toList_none, Option.toList_some, List.nil_append, List.cons_append, kkI, llI, nnI, rrI, jjI, kkJ, llJ, nnJ, rrJ, iiJ, zIIs, zJJs, nEF, nET, and_false, false_and, jmin, jmax, catS_n, catS_i, catS_r, catS_l, Nat.reduceLeDiff, j1eq1, n21, jt0, jt1, Bool.false_eq_true, Classical.not_not, true_or, or_true, false_or, or_false, true_imp_iff, false_imp_iff, not_true_eq_false, not_false_eq_true, jif0, jif1, jifb, ltT, ltF, leT, leF, eqT, eqF, jlt, jle, jeq, jlt0, jle0, jeq0, jge0, jgt0, jinB, jnat, clt, cle, ceq, cgt, cge, lI_add, lI_sub, lI_mul, jadd, jsub, jmul, jneg, jtol, b010, b011, pv_2t, Int.toNat_natCast, Option.some.injEq, exists_eq_left', if_true, if_false, N, a5, e1, t0]
  have f4 : fi (seS x) h (zsI h (x + 8) 0 (iI (p + 1 : Nat))) := fi_I (by unfold seS; omega)
  have z4 : zI (zsI h (x + 8) 0 (iI (p + 1 : Nat))) x = zI h x := by
    funext i
    rw [zI_s, if_neg (by omega)]
  have s4 : fsC (zsI h (x + 8) 0 (iI (p + 1 : Nat))) x p q c (fun _ => 0) (fun _ => 0) (upN tr 0 (p + 1)) 0 0 := by
    refine ⟨hs.1.fi f4, by rw [z4]; exact a5, by rw [z4]; exact a6, fun i hi => by rw [zI_s, if_neg (by omega)]; exact al i hi, fun i hi => by rw [zI_s, if_neg (by omega)]; exact ax i hi, fun i hi => by rw [zI_s, if_neg (by omega)]; exact ay i hi, fun i hi => ?_, by rw [z4]; exact a10, by rw [z4]; exact a11⟩
    rw [zI_s]
    show (if i = 0 then p + 1 else tr i) ≤ 65 ∧ _ = iI ((if i = 0 then p + 1 else tr i : Nat) : Int)
    by_cases ci : i = 0
    · rw [if_pos ci, if_pos ⟨rfl, ci⟩]
      exact ⟨by omega, rfl⟩
    · rw [if_neg ci, if_neg (fun z => ci z.2)]
      exact at9 i hi
  generalize zsI h (x + 8) 0 (iI (p + 1 : Nat)) = g4 at *
  have eX : fX [] = fun _ => 0 := rfl
  have eY : fY [] = fun _ => 0 := rfl
  refine t_node hc hp hq64 hdp hJ hAdd 60 [] rfl (p + 1) 0 [] 0 0 (upN tr 0 (p + 1)) g4 rfl (by show p + 1 ≤ p - 0 + 1; omega) (Nat.zero_le _) (Nat.zero_le _) (fun k hk => by rw [lF_nil]; exact (hc k hk).1) (by rw [Nat.zero_add]; exact hst) (by rw [lF_nil, eX, eY, up_self rfl]; exact s4) (by rw [z4]; exact h9) (hJ [] h g4 hJ0 f4 fun i _ _ => by rw [z4]) (f4.wk fun q z => by unfold seS at z; unfold fsA; omega) fun g2 tr2 s2 y1 y2 y3 y4 y5 y6 => ?_
  have N2 := fsF y3.1
  have y1' : s2 + 1 ≤ 100000000 := by
    rw [y1, Nat.zero_add]
    exact hst
  have m1 : ((([] : Pth).length : Nat) : Int) + (-1) = -1 := rfl
  refine vs_ok 4 ?_
  rw [show ((gRes 16).drop 24).take 4 = [.iinc 1 (-1), .aload 0, .iload 1, .iconst 1] from rfl]
  simp (disch := omega) only [vs_iconst, vs_aload0, vs_iload1, vs_iinc1n, vs_iinc1i, vs_iinc1r, vs_iinc1l, vs_nil, gv_0, gv_1, gv_2, gv_3, pv_0, pv_1, va_rf_s, Nat.reduceDiv, Nat.reduceMod, Nat.reduceAdd, Nat.reduceMul, Int.reduceToNat, true_and, and_true, and_self, cP_eq, cP_ne, cP_lt, cP_ge, cP_gt, cP_le, eL_i, eL_l, eL_r, eL_n, Option.toList_none, Option.toList_some, List.nil_append, List.cons_append, kkI, llI, nnI, rrI, jjI, kkJ, llJ, nnJ, rrJ, iiJ, zIIs, zJJs, nEF, nET, and_false, false_and, jmin, jmax, catS_n, catS_i, catS_r, catS_l, Nat.reduceLeDiff, j1eq1, n21, jt0, jt1, Bool.false_eq_true, Classical.not_not, true_or, or_true, false_or, or_false, true_imp_iff, false_imp_iff, not_true_eq_false, not_false_eq_true, jif0, jif1, jifb, ltT, ltF, leT, leF, eqT, eqF, jlt, jle, jeq, jlt0, jle0, jeq0, jge0, jgt0, jinB, jnat, clt, cle, ceq, cgt, cge, lI_add, lI_sub, lI_mul, jadd, jsub, jmul, jneg, jtol, b010, b011, pv_2t, Int.toNat_natCast, Option.some.injEq, exists_eq_left', if_true, if_false, m1]
  refine PW.iv rfl rfl rfl N2.1.1 N2.1.2.1 (le_b rfl) (le_b rfl) ?_
  refine t_takeNeg (e := -1) (by constructor <;> omega) (Or.inl (by omega)) ⟨rfl, ⟨rfl, rfl⟩, ?_⟩
  refine vs_ok 2 ?_
  rw [show ((gRes 16).drop 29).take 2 = [.pop, .goto 99] from rfl]
  simp (disch := omega) only [vs_goto, vs_nil, gv_0, gv_1, gv_2, gv_3, pv_0, pv_1, va_rf_s, vs_popi, vs_popr, Nat.reduceDiv, Nat.reduceMod, Nat.reduceAdd, Nat.reduceMul, Int.reduceToNat, true_and, and_true, and_self, cP_eq, cP_ne, cP_lt, cP_ge, cP_gt, cP_le, eL_i, eL_l, eL_r, eL_n, Option.toList_none, Option.toList_some, List.nil_append, List.cons_append, kkI, llI, nnI, rrI, jjI, kkJ, llJ, nnJ, rrJ, iiJ, zIIs, zJJs, nEF, nET, and_false, false_and, jmin, jmax, catS_n, catS_i, catS_r, catS_l, Nat.reduceLeDiff, j1eq1, n21, jt0, jt1, Bool.false_eq_true, Classical.not_not, true_or, or_true, false_or, or_false, true_imp_iff, false_imp_iff, not_true_eq_false, not_false_eq_true, jif0, jif1, jifb, ltT, ltF, leT, leF, eqT, eqF, jlt, jle, jeq, jlt0, jle0, jeq0, jge0, jgt0, jinB, jnat, clt, cle, ceq, cgt, cge, lI_add, lI_sub, lI_mul, jadd, jsub, jmul, jneg, jtol, b010, b011, pv_2t, Int.toNat_natCast, Option.some.injEq, exists_eq_left', if_true, if_false]
  have fin : ∀ o2, PW (D + 11) 16 101 [some (.ref x), some (.int (iI (-1))), o2] [] g2 Q := fun o2 => by
    refine vs_ok 1 ?_
    rw [show ((gRes 16).drop 101).take 1 = [.return_] from rfl]
    simp (disch := omega) only [vs_return_, vs_nil, gv_0, gv_1, gv_2, gv_3, pv_0, pv_1, va_rf_s, Nat.reduceDiv, Nat.reduceMod, Nat.reduceAdd, Nat.reduceMul, Int.reduceToNat, true_and, and_true, and_self, cP_eq, cP_ne, cP_lt, cP_ge, cP_gt, cP_le, eL_i, eL_l, eL_r, eL_n, Option.toList_none, Option.toList_some, List.nil_append, List.cons_append, kkI, llI, nnI, rrI, jjI, kkJ, llJ, nnJ, rrJ, iiJ, zIIs, zJJs, nEF, nET, and_false, false_and, jmin, jmax, catS_n, catS_i, catS_r, catS_l, Nat.reduceLeDiff, j1eq1, n21, jt0, jt1, Bool.false_eq_true, Classical.not_not, true_or, or_true, false_or, or_false, true_imp_iff, false_imp_iff, not_true_eq_false, not_false_eq_true, jif0, jif1, jifb, ltT, ltF, leT, leF, eqT, eqF, jlt, jle, jeq, jlt0, jle0, jeq0, jge0, jgt0, jinB, jnat, clt, cle, ceq, cgt, cge, lI_add, lI_sub, lI_mul, jadd, jsub, jmul, jneg, jtol, b010, b011, pv_2t, Int.toNat_natCast, Option.some.injEq, exists_eq_left', if_true, if_false, show gRc 16 = 0 from rfl]
    exact hq g2 y6 y5 ⟨tr2, y3.2.2.2.2.2.2.1⟩
  refine vs_ok 2 ?_
  rw [show ((gRes 16).drop 99).take 2 = [.iinc 2 1, .goto 12] from rfl]
  simp (disch := omega) only [vs_goto, vs_iinc2n, vs_iinc2i, vs_iinc2r, vs_iinc2l, vs_nil, gv_0, gv_1, gv_2, gv_3, pv_0, pv_1, va_rf_s, Nat.reduceDiv, Nat.reduceMod, Nat.reduceAdd, Nat.reduceMul, Int.reduceToNat, true_and, and_true, and_self, cP_eq, cP_ne, cP_lt, cP_ge, cP_gt, cP_le, eL_i, eL_l, eL_r, eL_n, Option.toList_none, Option.toList_some, List.nil_append, List.cons_append, kkI, llI, nnI, rrI, jjI, kkJ, llJ, nnJ, rrJ, iiJ, zIIs, zJJs, nEF, nET, and_false, false_and, jmin, jmax, catS_n, catS_i, catS_r, catS_l, Nat.reduceLeDiff, j1eq1, n21, jt0, jt1, Bool.false_eq_true, Classical.not_not, true_or, or_true, false_or, or_false, true_imp_iff, false_imp_iff, not_true_eq_false, not_false_eq_true, jif0, jif1, jifb, ltT, ltF, leT, leF, eqT, eqF, jlt, jle, jeq, jlt0, jle0, jeq0, jge0, jgt0, jinB, jnat, clt, cle, ceq, cgt, cge, lI_add, lI_sub, lI_mul, jadd, jsub, jmul, jneg, jtol, b010, b011, pv_2t, Int.toNat_natCast, Option.some.injEq, exists_eq_left', if_true, if_false]
  by_cases c9 : s2 + 1 < 100000000
  · refine vs_ok 10 ?_
    rw [show ((gRes 16).drop 12).take 10 = [.iload 2, .iconst 100000000, .if_icmp .ge 101, .iload 1, .ifCond .lt 101, .iload 1, .iconst 61, .if_icmp .ge 101, .aload 0, .iload 1] from rfl]
    simp (disch := omega) only [vs_iconst, vs_if_icmp, vs_ifCond, vs_aload0, vs_iload1, vs_iload2, vs_nil, gv_0, gv_1, gv_2, gv_3, pv_0, pv_1, va_rf_s, Nat.reduceDiv, Nat.reduceMod, Nat.reduceAdd, Nat.reduceMul, Int.reduceToNat, true_and, and_true, and_self, cP_eq, cP_ne, cP_lt, cP_ge, cP_gt, cP_le, eL_i, eL_l, eL_r, eL_n, Option.toList_none, Option.toList_some, List.nil_append, List.cons_append, kkI, llI, nnI, rrI, jjI, kkJ, llJ, nnJ, rrJ, iiJ, zIIs, zJJs, nEF, nET, and_false, false_and, jmin, jmax, catS_n, catS_i, catS_r, catS_l, Nat.reduceLeDiff, j1eq1, n21, jt0, jt1, Bool.false_eq_true, Classical.not_not, true_or, or_true, false_or, or_false, true_imp_iff, false_imp_iff, not_true_eq_false, not_false_eq_true, jif0, jif1, jifb, ltT, ltF, leT, leF, eqT, eqF, jlt, jle, jeq, jlt0, jle0, jeq0, jge0, jgt0, jinB, jnat, clt, cle, ceq, cgt, cge, lI_add, lI_sub, lI_mul, jadd, jsub, jmul, jneg, jtol, b010, b011, pv_2t, Int.toNat_natCast, Option.some.injEq, exists_eq_left', if_true, if_false]
    exact fin _
  · refine vs_ok 3 ?_
    rw [show ((gRes 16).drop 12).take 3 = [.iload 2, .iconst 100000000, .if_icmp .ge 101] from rfl]
    simp (disch := omega) only [vs_iconst, vs_if_icmp, vs_iload2, vs_nil, gv_0, gv_1, gv_2, gv_3, pv_0, pv_1, va_rf_s, Nat.reduceDiv, Nat.reduceMod, Nat.reduceAdd, Nat.reduceMul, Int.reduceToNat, true_and, and_true, and_self, cP_eq, cP_ne, cP_lt, cP_ge, cP_gt, cP_le, eL_i, eL_l, eL_r, eL_n, Option.toList_none, Option.toList_some, List.nil_append, List.cons_append, kkI, llI, nnI, rrI, jjI, kkJ, llJ, nnJ, rrJ, iiJ, zIIs, zJJs, nEF, nET, and_false, false_and, jmin, jmax, catS_n, catS_i, catS_r, catS_l, Nat.reduceLeDiff, j1eq1, n21, jt0, jt1, Bool.false_eq_true, Classical.not_not, true_or, or_true, false_or, or_false, true_imp_iff, false_imp_iff, not_true_eq_false, not_false_eq_true, jif0, jif1, jifb, ltT, ltF, leT, leF, eqT, eqF, jlt, jle, jeq, jlt0, jle0, jeq0, jge0, jgt0, jinB, jnat, clt, cle, ceq, cgt, cge, lI_add, lI_sub, lI_mul, jadd, jsub, jmul, jneg, jtol, b010, b011, pv_2t, Int.toNat_natCast, Option.some.injEq, exists_eq_left', if_true, if_false]
    exact fin _
theorem t_addUp {d : Nat} {h : Hp} {x a b : Nat} {la ha ta lb hb tb : Int} {Wa Wb : Int → Int} {Q : Nat → Option Value → Hp → Prop} (ho : fsO h x) (hva : rowV h a 200 la ha ta Wa) (hvb : rowV h b 200 lb hb tb Wb) (dja : ∀ q, x ≤ q → q ≤ x + 8 → q ≠ a ∧ q ≠ a + 1 ∧ q ≠ b ∧ q ≠ b + 1) (ba : 0 ≤ la ∧ ha ≤ 60) (bb : 0 ≤ lb ∧ hb ≤ 60) (wa : ∀ m, 0 ≤ Wa m ∧ Wa m ≤ 12) (wb : ∀ m, 0 ≤ Wb m ∧ Wb m ≤ 12) (h8 : zI h x 8 = iI (la + lb))
    (hq : ∀ g, fi (fun q => q = x + 5) h g → (∀ k, k < 122 → zI g (x + 5) k = iI (cvW 0 Wa Wb ((k : Int) + la + lb))) → Q 0 none g) : PR (d + 2) m_FaceSearch_addUp [.ref x, .ref a, .ref b] h Q := by
  have N := fsF ho
  have va5 := hva.2.2.2.2.1
  have vb5 := hvb.2.2.2.2.1
  have za := hva.2.2.2.2.2.2
  have zb := hvb.2.2.2.2.2.2
  have kp : ∀ g, fi (fun q => q = x + 5) h g → fsO g x ∧ rowV g a 200 la ha ta Wa ∧ rowV g b 200 lb hb tb Wb ∧ zI g x 8 = iI (la + lb) := fun g f => ⟨ho.fi f, hva.keep f.1 (fun z => (dja _ (by omega) (by omega)).1 z.symm) (fun z => (dja _ (by omega) (by omega)).2.1 z.symm), hvb.keep f.1 (fun z => (dja _ (by omega) (by omega)).2.2.1 z.symm) (fun z => (dja _ (by omega) (by omega)).2.2.2 z.symm), by rw [f.1.2.2.2.2.2.1 x (by omega)]; exact h8⟩
  show PW (d + 2) 15 0 [some (.ref x), some (.ref a), some (.ref b), none, none, none] [] h Q
  have li : ∀ (i : Int), la ≤ i → i ≤ ha → (∀ g o4 o5, fi (fun q => q = x + 5) h g → (∀ k : Nat, k < 122 → zI g (x + 5) k = iI (pS (fun i => Wa i * Wb ((k : Int) + la + lb - i)) (i + 1))) → PW (d + 2) 15 49 [some (.ref x), some (.ref a), some (.ref b), some (.int (iI i)), o4, o5] [] g Q) → ∀ (n : Nat) (j : Int) (g : Hp) (o5 : Option Value), n = (hb + 1 - j).toNat → lb ≤ j → j ≤ hb + 1 → fi (fun q => q = x + 5) h g → (∀ k : Nat, k < 122 → zI g (x + 5) k = iI (pS (fun i => Wa i * Wb ((k : Int) + la + lb - i)) i + if (k : Int) + la + lb - i < j then Wa i * Wb ((k : Int) + la + lb - i) else 0)) → PW (d + 2) 15 14 [some (.ref x), some (.ref a), some (.ref b), some (.int (iI i)), some (.int (iI j)), o5] [] g Q := by
    intro i hi1 hi2 K n
    induction n with
    | zero =>
      intro j g o5 hn hj1 hj2 f hI
      obtain ⟨go, ga, gb, g8⟩ := kp g f
      refine vs_ok 4 ?_
      rw [show ((gRes 15).drop 14).take 4 = [.iload 4, .aload 2, .getfield 6030, .if_icmp .gt 49] from rfl]
      simp (disch := omega) only [vs_if_icmp, vs_getfield, vs_aload2, vs_iload4, vs_nil, gv_0, gv_1, gv_2, gv_3, pv_0, pv_1, va_rf_s, Nat.reduceDiv, Nat.reduceMod, Nat.reduceAdd, Nat.reduceMul, Int.reduceToNat, true_and, and_true, and_self, cP_eq, cP_ne, cP_lt, cP_ge, cP_gt, cP_le, eL_i, eL_l, eL_r, eL_n, Option.toList_none, Option.toList_some, List.nil_append, List.cons_append, kkI, llI, nnI, rrI, jjI, kkJ, llJ, nnJ, rrJ, iiJ, zIIs, zJJs, nEF, nET, and_false, false_and, jmin, jmax, catS_n, catS_i, catS_r, catS_l, Nat.reduceLeDiff, j1eq1, n21, jt0, jt1, Bool.false_eq_true, Classical.not_not, true_or, or_true, false_or, or_false, true_imp_iff, false_imp_iff, not_true_eq_false, not_false_eq_true, jif0, jif1, jifb, ltT, ltF, leT, leF, eqT, eqF, jlt, jle, jeq, jlt0, jle0, jeq0, jge0, jgt0, jinB, jnat, clt, cle, ceq, cgt, cge, lI_add, lI_sub, lI_mul, jadd, jsub, jmul, jneg, jtol, b010, b011, pv_2t, Int.toNat_natCast, Option.some.injEq, exists_eq_left', if_true, if_false, gb.1.1, gb.1.2.1, gb.2.2.1]
      refine K g _ _ f fun k hk => ?_
      rw [hI k hk, pS_s (by omega)]
      by_cases c : (k : Int) + la + lb - i < j
      · rw [if_pos c]
      · rw [if_neg c, zb ((k : Int) + la + lb - i) (by omega), Int.mul_zero]
    | succ n ih =>
      intro j g o5 hn hj1 hj2 f hI
      obtain ⟨go, ga, gb, g8⟩ := kp g f
      have Ng := fsF go
      obtain ⟨m, hm⟩ : ∃ m : Nat, i + j - (la + lb) = (m : Int) := ⟨(i + j - (la + lb)).toNat, by omega⟩
      have hm122 : m < 122 := by omega
      have em := hI m hm122
      rw [show (m : Int) + la + lb - i = j by omega, if_neg (by omega), Int.add_zero] at em
      refine vs_ok 4 ?_
      rw [show ((gRes 15).drop 14).take 4 = [.iload 4, .aload 2, .getfield 6030, .if_icmp .gt 49] from rfl]
      simp (disch := omega) only [vs_if_icmp, vs_getfield, vs_aload2, vs_iload4, vs_nil, gv_0, gv_1, gv_2, gv_3, pv_0, pv_1, va_rf_s, Nat.reduceDiv, Nat.reduceMod, Nat.reduceAdd, Nat.reduceMul, Int.reduceToNat, true_and, and_true, and_self, cP_eq, cP_ne, cP_lt, cP_ge, cP_gt, cP_le, eL_i, eL_l, eL_r, eL_n, Option.toList_none, Option.toList_some, List.nil_append, List.cons_append, kkI, llI, nnI, rrI, jjI, kkJ, llJ, nnJ, rrJ, iiJ, zIIs, zJJs, nEF, nET, and_false, false_and, jmin, jmax, catS_n, catS_i, catS_r, catS_l, Nat.reduceLeDiff, j1eq1, n21, jt0, jt1, Bool.false_eq_true, Classical.not_not, true_or, or_true, false_or, or_false, true_imp_iff, false_imp_iff, not_true_eq_false, not_false_eq_true, jif0, jif1, jifb, ltT, ltF, leT, leF, eqT, eqF, jlt, jle, jeq, jlt0, jle0, jeq0, jge0, jgt0, jinB, jnat, clt, cle, ceq, cgt, cge, lI_add, lI_sub, lI_mul, jadd, jsub, jmul, jneg, jtol, b010, b011, pv_2t, Int.toNat_natCast, Option.some.injEq, exists_eq_left', if_true, if_false, gb.1.1, gb.1.2.1, gb.2.2.1]
      refine vs_ok 14 ?_
      rw [show ((gRes 15).drop 18).take 14 = [.iload 3, .iload 4, .iadd, .aload 0, .getfield 1080, .isub, .istore 5, .iload 5, .ifCond .lt 47, .iload 5, .aload 0, .getfield 1012, .arraylength, .if_icmp .ge 47] from rfl]
      simp (disch := omega) only [vs_iadd, vs_isub, vs_if_icmp, vs_ifCond, vs_getfield, vs_arraylength, vs_aload0, vs_iload3, vs_iload4, vs_iload5, vs_istore5n, vs_istore5i, vs_istore5r, vs_istore5l, vs_nil, gv_0, gv_1, gv_2, gv_3, pv_0, pv_1, va_rf_s, Nat.reduceDiv, Nat.reduceMod, Nat.reduceAdd, Nat.reduceMul, Int.reduceToNat, true_and, and_true, and_self, cP_eq, cP_ne, cP_lt, cP_ge, cP_gt, cP_le, eL_i, eL_l, eL_r, eL_n, Option.toList_none, Option.toList_some, List.nil_append, List.cons_append, kkI, llI, nnI, rrI, jjI, kkJ, llJ, nnJ, rrJ, iiJ, zIIs, zJJs, nEF, nET, and_false, false_and, jmin, jmax, catS_n, catS_i, catS_r, catS_l, Nat.reduceLeDiff, j1eq1, n21, jt0, jt1, Bool.false_eq_true, Classical.not_not, true_or, or_true, false_or, or_false, true_imp_iff, false_imp_iff, not_true_eq_false, not_false_eq_true, jif0, jif1, jifb, ltT, ltF, leT, leF, eqT, eqF, jlt, jle, jeq, jlt0, jle0, jeq0, jge0, jgt0, jinB, jnat, clt, cle, ceq, cgt, cge, lI_add, lI_sub, lI_mul, jadd, jsub, jmul, jneg, jtol, b010, b011, pv_2t, Int.toNat_natCast, Option.some.injEq, exists_eq_left', if_true, if_false, Ng, g8, hm, or_true, true_or, show Int32.ofNat 122 = iI 122 from rfl]
      refine vs_ok 7 ?_
      rw [show ((gRes 15).drop 32).take 7 = [.aload 0, .getfield 1012, .iload 5, .dup2, .iaload, .aload 1, .iload 3] from rfl]
      simp (disch := omega) only [vs_getfield, vs_iaload, vs_dup2, vs_aload0, vs_aload1, vs_iload3, vs_iload5, vs_nil, gv_0, gv_1, gv_2, gv_3, pv_0, pv_1, va_rf_s, Nat.reduceDiv, Nat.reduceMod, Nat.reduceAdd, Nat.reduceMul, Int.reduceToNat, true_and, and_true, and_self, cP_eq, cP_ne, cP_lt, cP_ge, cP_gt, cP_le, eL_i, eL_l, eL_r, eL_n, Option.toList_none, Option.toList_some, List.nil_append, List.cons_append, kkI, llI, nnI, rrI, jjI, kkJ, llJ, nnJ, rrJ, iiJ, zIIs, zJJs, nEF, nET, and_false, false_and, jmin, jmax, catS_n, catS_i, catS_r, catS_l, Nat.reduceLeDiff, j1eq1, n21, jt0, jt1, Bool.false_eq_true, Classical.not_not, true_or, or_true, false_or, or_false, true_imp_iff, false_imp_iff, not_true_eq_false, not_false_eq_true, jif0, jif1, jifb, ltT, ltF, leT, leF, eqT, eqF, jlt, jle, jeq, jlt0, jle0, jeq0, jge0, jgt0, jinB, jnat, clt, cle, ceq, cgt, cge, lI_add, lI_sub, lI_mul, jadd, jsub, jmul, jneg, jtol, b010, b011, pv_2t, Int.toNat_natCast, Option.some.injEq, exists_eq_left', if_true, if_false, Ng, em]
      refine PW.iv rfl rfl rfl ga.1.1 ga.1.2.1 (le_b rfl) (le_b rfl) ?_
      refine t_atV ga ⟨by omega, by omega⟩ ⟨rfl, ⟨rfl, rfl⟩, ?_⟩
      refine vs_ok 2 ?_
      rw [show ((gRes 15).drop 40).take 2 = [.aload 2, .iload 4] from rfl]
      simp (disch := omega) only [vs_aload2, vs_iload4, vs_nil, gv_0, gv_1, gv_2, gv_3, pv_0, pv_1, va_rf_s, Nat.reduceDiv, Nat.reduceMod, Nat.reduceAdd, Nat.reduceMul, Int.reduceToNat, true_and, and_true, and_self, cP_eq, cP_ne, cP_lt, cP_ge, cP_gt, cP_le, eL_i, eL_l, eL_r, eL_n, Option.toList_none, Option.toList_some, List.nil_append, List.cons_append, kkI, llI, nnI, rrI, jjI, kkJ, llJ, nnJ, rrJ, iiJ, zIIs, zJJs, nEF, nET, and_false, false_and, jmin, jmax, catS_n, catS_i, catS_r, catS_l, Nat.reduceLeDiff, j1eq1, n21, jt0, jt1, Bool.false_eq_true, Classical.not_not, true_or, or_true, false_or, or_false, true_imp_iff, false_imp_iff, not_true_eq_false, not_false_eq_true, jif0, jif1, jifb, ltT, ltF, leT, leF, eqT, eqF, jlt, jle, jeq, jlt0, jle0, jeq0, jge0, jgt0, jinB, jnat, clt, cle, ceq, cgt, cge, lI_add, lI_sub, lI_mul, jadd, jsub, jmul, jneg, jtol, b010, b011, pv_2t, Int.toNat_natCast, Option.some.injEq, exists_eq_left', if_true, if_false]
      refine PW.iv rfl rfl rfl gb.1.1 gb.1.2.1 (le_b rfl) (le_b rfl) ?_
      refine t_atV gb ⟨by omega, by omega⟩ ⟨rfl, ⟨rfl, rfl⟩, ?_⟩
      have wai := wa i
      have wbj := wb j
      have mb : 0 ≤ Wa i * Wb j ∧ Wa i * Wb j ≤ 144 := by
        refine ⟨Int.mul_nonneg wai.1 wbj.1, ?_⟩
        have := Int.mul_le_mul wai.2 wbj.2 wbj.1 (by omega)
        omega
      refine vs_ok 4 ?_
      rw [show ((gRes 15).drop 43).take 4 = [.lmul, .l2i, .iadd, .iastore] from rfl]
      simp (disch := omega) only [vs_iadd, vs_lmul, vs_iastore, vs_nil, gv_0, gv_1, gv_2, gv_3, pv_0, pv_1, va_rf_s, vs_l2i, Nat.reduceDiv, Nat.reduceMod, Nat.reduceAdd, Nat.reduceMul, Int.reduceToNat, true_and, and_true, and_self, cP_eq, cP_ne, cP_lt, cP_ge, cP_gt, cP_le, eL_i, eL_l, eL_r, eL_n, Option.toList_none, Option.toList_some, List.nil_append, List.cons_append, kkI, llI, nnI, rrI, jjI, kkJ, llJ, nnJ, rrJ, iiJ, zIIs, zJJs, nEF, nET, and_false, false_and, jmin, jmax, catS_n, catS_i, catS_r, catS_l, Nat.reduceLeDiff, j1eq1, n21, jt0, jt1, Bool.false_eq_true, Classical.not_not, true_or, or_true, false_or, or_false, true_imp_iff, false_imp_iff, not_true_eq_false, not_false_eq_true, jif0, jif1, jifb, ltT, ltF, leT, leF, eqT, eqF, jlt, jle, jeq, jlt0, jle0, jeq0, jge0, jgt0, jinB, jnat, clt, cle, ceq, cgt, cge, lI_add, lI_sub, lI_mul, jadd, jsub, jmul, jneg, jtol, b010, b011, pv_2t, Int.toNat_natCast, Option.some.injEq, exists_eq_left', if_true, if_false, Ng, jtoi]
      refine vs_ok 2 ?_
      rw [show ((gRes 15).drop 47).take 2 = [.iinc 4 1, .goto 14] from rfl]
      simp (disch := omega) only [vs_goto, vs_iinc4n, vs_iinc4i, vs_iinc4r, vs_iinc4l, vs_nil, gv_0, gv_1, gv_2, gv_3, pv_0, pv_1, va_rf_s, Nat.reduceDiv, Nat.reduceMod, Nat.reduceAdd, Nat.reduceMul, Int.reduceToNat, true_and, and_true, and_self, cP_eq, cP_ne, cP_lt, cP_ge, cP_gt, cP_le, eL_i, eL_l, eL_r, eL_n, Option.toList_none, Option.toList_some, List.nil_append, List.cons_append, kkI, llI, nnI, rrI, jjI, kkJ, llJ, nnJ, rrJ, iiJ, zIIs, zJJs, nEF, nET, and_false, false_and, jmin, jmax, catS_n, catS_i, catS_r, catS_l, Nat.reduceLeDiff, j1eq1, n21, jt0, jt1, Bool.false_eq_true, Classical.not_not, true_or, or_true, false_or, or_false, true_imp_iff, false_imp_iff, not_true_eq_false, not_false_eq_true, jif0, jif1, jifb, ltT, ltF, leT, leF, eqT, eqF, jlt, jle, jeq, jlt0, jle0, jeq0, jge0, jgt0, jinB, jnat, clt, cle, ceq, cgt, cge, lI_add, lI_sub, lI_mul, jadd, jsub, jmul, jneg, jtol, b010, b011, pv_2t, Int.toNat_natCast, Option.some.injEq, exists_eq_left', if_true, if_false]
      refine ih (j + 1) _ _ (by omega) (by omega) (by omega) (f.I rfl) fun k hk => ?_
      rw [zI_s]
      by_cases c : k = m
      · rw [if_pos ⟨rfl, c⟩, c, show (m : Int) + la + lb - i = j by omega, if_pos (by omega)]
      · rw [if_neg (fun z => c z.2), hI k hk]
        by_cases c2 : (k : Int) + la + lb - i < j
        · rw [if_pos c2, if_pos (by omega)]
        · rw [if_neg c2, if_neg (by omega)]
  have lo : ∀ (n : Nat) (i : Int) (g : Hp) (o4 o5 : Option Value), n = (ha + 1 - i).toNat → la ≤ i → i ≤ ha + 1 → fi (fun q => q = x + 5) h g → (∀ k : Nat, k < 122 → zI g (x + 5) k = iI (pS (fun i => Wa i * Wb ((k : Int) + la + lb - i)) i)) → PW (d + 2) 15 7 [some (.ref x), some (.ref a), some (.ref b), some (.int (iI i)), o4, o5] [] g Q := by
    intro n
    induction n with
    | zero =>
      intro i g o4 o5 hn hi1 hi2 f hI
      obtain ⟨go, ga, gb, g8⟩ := kp g f
      refine vs_ok 4 ?_
      rw [show ((gRes 15).drop 7).take 4 = [.iload 3, .aload 1, .getfield 6030, .if_icmp .gt 51] from rfl]
      simp (disch := omega) only [vs_if_icmp, vs_getfield, vs_aload1, vs_iload3, vs_nil, gv_0, gv_1, gv_2, gv_3, pv_0, pv_1, va_rf_s, Nat.reduceDiv, Nat.reduceMod, Nat.reduceAdd, Nat.reduceMul, Int.reduceToNat, true_and, and_true, and_self, cP_eq, cP_ne, cP_lt, cP_ge, cP_gt, cP_le, eL_i, eL_l, eL_r, eL_n, Option.toList_none, Option.toList_some, List.nil_append, List.cons_append, kkI, llI, nnI, rrI, jjI, kkJ, llJ, nnJ, rrJ, iiJ, zIIs, zJJs, nEF, nET, and_false, false_and, jmin, jmax, catS_n, catS_i, catS_r, catS_l, Nat.reduceLeDiff, j1eq1, n21, jt0, jt1, Bool.false_eq_true, Classical.not_not, true_or, or_true, false_or, or_false, true_imp_iff, false_imp_iff, not_true_eq_false, not_false_eq_true, jif0, jif1, jifb, ltT, ltF, leT, leF, eqT, eqF, jlt, jle, jeq, jlt0, jle0, jeq0, jge0, jgt0, jinB, jnat, clt, cle, ceq, cgt, cge, lI_add, lI_sub, lI_mul, jadd, jsub, jmul, jneg, jtol, b010, b011, pv_2t, Int.toNat_natCast, Option.some.injEq, exists_eq_left', if_true, if_false, ga.1.1, ga.1.2.1, ga.2.2.1]
      refine vs_ok 1 ?_
      rw [show ((gRes 15).drop 51).take 1 = [.return_] from rfl]
      simp (disch := omega) only [vs_return_, vs_nil, gv_0, gv_1, gv_2, gv_3, pv_0, pv_1, va_rf_s, Nat.reduceDiv, Nat.reduceMod, Nat.reduceAdd, Nat.reduceMul, Int.reduceToNat, true_and, and_true, and_self, cP_eq, cP_ne, cP_lt, cP_ge, cP_gt, cP_le, eL_i, eL_l, eL_r, eL_n, Option.toList_none, Option.toList_some, List.nil_append, List.cons_append, kkI, llI, nnI, rrI, jjI, kkJ, llJ, nnJ, rrJ, iiJ, zIIs, zJJs, nEF, nET, and_false, false_and, jmin, jmax, catS_n, catS_i, catS_r, catS_l, Nat.reduceLeDiff, j1eq1, n21, jt0, jt1, Bool.false_eq_true, Classical.not_not, true_or, or_true, false_or, or_false, true_imp_iff, false_imp_iff, not_true_eq_false, not_false_eq_true, jif0, jif1, jifb, ltT, ltF, leT, leF, eqT, eqF, jlt, jle, jeq, jlt0, jle0, jeq0, jge0, jgt0, jinB, jnat, clt, cle, ceq, cgt, cge, lI_add, lI_sub, lI_mul, jadd, jsub, jmul, jneg, jtol, b010, b011, pv_2t, Int.toNat_natCast, Option.some.injEq, exists_eq_left', if_true, if_false, show gRc 15 = 0 from rfl]
      refine hq g f fun k hk => ?_
      rw [hI k hk]
      refine congrArg iI ?_
      unfold cvW sg
      simp only [if_true]
      exact (pS_top (by omega) (by omega) fun m h1 h2 => by rw [za m (by omega), Int.zero_mul]).symm
    | succ n ih =>
      intro i g o4 o5 hn hi1 hi2 f hI
      obtain ⟨go, ga, gb, g8⟩ := kp g f
      refine vs_ok 4 ?_
      rw [show ((gRes 15).drop 7).take 4 = [.iload 3, .aload 1, .getfield 6030, .if_icmp .gt 51] from rfl]
      simp (disch := omega) only [vs_if_icmp, vs_getfield, vs_aload1, vs_iload3, vs_nil, gv_0, gv_1, gv_2, gv_3, pv_0, pv_1, va_rf_s, Nat.reduceDiv, Nat.reduceMod, Nat.reduceAdd, Nat.reduceMul, Int.reduceToNat, true_and, and_true, and_self, cP_eq, cP_ne, cP_lt, cP_ge, cP_gt, cP_le, eL_i, eL_l, eL_r, eL_n, Option.toList_none, Option.toList_some, List.nil_append, List.cons_append, kkI, llI, nnI, rrI, jjI, kkJ, llJ, nnJ, rrJ, iiJ, zIIs, zJJs, nEF, nET, and_false, false_and, jmin, jmax, catS_n, catS_i, catS_r, catS_l, Nat.reduceLeDiff, j1eq1, n21, jt0, jt1, Bool.false_eq_true, Classical.not_not, true_or, or_true, false_or, or_false, true_imp_iff, false_imp_iff, not_true_eq_false, not_false_eq_true, jif0, jif1, jifb, ltT, ltF, leT, leF, eqT, eqF, jlt, jle, jeq, jlt0, jle0, jeq0, jge0, jgt0, jinB, jnat, clt, cle, ceq, cgt, cge, lI_add, lI_sub, lI_mul, jadd, jsub, jmul, jneg, jtol, b010, b011, pv_2t, Int.toNat_natCast, Option.some.injEq, exists_eq_left', if_true, if_false, ga.1.1, ga.1.2.1, ga.2.2.1]
      refine vs_ok 3 ?_
      rw [show ((gRes 15).drop 11).take 3 = [.aload 2, .getfield 6020, .istore 4] from rfl]
      simp (disch := omega) only [vs_getfield, vs_aload2, vs_istore4n, vs_istore4i, vs_istore4r, vs_istore4l, vs_nil, gv_0, gv_1, gv_2, gv_3, pv_0, pv_1, va_rf_s, Nat.reduceDiv, Nat.reduceMod, Nat.reduceAdd, Nat.reduceMul, Int.reduceToNat, true_and, and_true, and_self, cP_eq, cP_ne, cP_lt, cP_ge, cP_gt, cP_le, eL_i, eL_l, eL_r, eL_n, Option.toList_none, Option.toList_some, List.nil_append, List.cons_append, kkI, llI, nnI, rrI, jjI, kkJ, llJ, nnJ, rrJ, iiJ, zIIs, zJJs, nEF, nET, and_false, false_and, jmin, jmax, catS_n, catS_i, catS_r, catS_l, Nat.reduceLeDiff, j1eq1, n21, jt0, jt1, Bool.false_eq_true, Classical.not_not, true_or, or_true, false_or, or_false, true_imp_iff, false_imp_iff, not_true_eq_false, not_false_eq_true, jif0, jif1, jifb, ltT, ltF, leT, leF, eqT, eqF, jlt, jle, jeq, jlt0, jle0, jeq0, jge0, jgt0, jinB, jnat, clt, cle, ceq, cgt, cge, lI_add, lI_sub, lI_mul, jadd, jsub, jmul, jneg, jtol, b010, b011, pv_2t, Int.toNat_natCast, Option.some.injEq, exists_eq_left', if_true, if_false, gb.1.1, gb.1.2.1, gb.2.1]
      refine li i (by omega) (by omega) (fun g2 o4 o5 f2 hI2 => ?_) _ lb g _ rfl (by omega) (by omega) f fun k hk => ?_
      · refine vs_ok 2 ?_
        rw [show ((gRes 15).drop 49).take 2 = [.iinc 3 1, .goto 7] from rfl]
        simp (disch := omega) only [vs_goto, vs_iinc3n, vs_iinc3i, vs_iinc3r, vs_iinc3l, vs_nil, gv_0, gv_1, gv_2, gv_3, pv_0, pv_1, va_rf_s, Nat.reduceDiv, Nat.reduceMod, Nat.reduceAdd, Nat.reduceMul, Int.reduceToNat, true_and, and_true, and_self, cP_eq, cP_ne, cP_lt, cP_ge, cP_gt, cP_le, eL_i, eL_l, eL_r, eL_n, Option.toList_none, Option.toList_some, List.nil_append, List.cons_append, kkI, llI, nnI, rrI, jjI, kkJ, llJ, nnJ, rrJ, iiJ, zIIs, zJJs, nEF, nET, and_false, false_and, jmin, jmax, catS_n, catS_i, catS_r, catS_l, Nat.reduceLeDiff, j1eq1, n21, jt0, jt1, Bool.false_eq_true, Classical.not_not, true_or, or_true, false_or, or_false, true_imp_iff, false_imp_iff, not_true_eq_false, not_false_eq_true, jif0, jif1, jifb, ltT, ltF, leT, leF, eqT, eqF, jlt, jle, jeq, jlt0, jle0, jeq0, jge0, jgt0, jinB, jnat, clt, cle, ceq, cgt, cge, lI_add, lI_sub, lI_mul, jadd, jsub, jmul, jneg, jtol, b010, b011, pv_2t, Int.toNat_natCast, Option.some.injEq, exists_eq_left', if_true, if_false]
        exact ih (i + 1) g2 _ _ (by omega) (by omega) (by omega) f2 hI2
      · rw [hI k hk]
        by_cases c : (k : Int) + la + lb - i < lb
        · rw [if_pos c, zb ((k : Int) + la + lb - i) (by omega), Int.mul_zero, Int.add_zero]
        · rw [if_neg c, Int.add_zero]
  refine vs_ok 3 ?_
  rw [show ((gRes 15).drop 0).take 3 = [.aload 0, .getfield 1012, .iconst 0] from rfl]
  simp (disch := omega) only [vs_iconst, vs_getfield, vs_aload0, vs_nil, gv_0, gv_1, gv_2, gv_3, pv_0, pv_1, va_rf_s, Nat.reduceDiv, Nat.reduceMod, Nat.reduceAdd, Nat.reduceMul, Int.reduceToNat, true_and, and_true, and_self, cP_eq, cP_ne, cP_lt, cP_ge, cP_gt, cP_le, eL_i, eL_l, eL_r, eL_n, Option.toList_none, Option.toList_some, List.nil_append, List.cons_append, kkI, llI, nnI, rrI, jjI, kkJ, llJ, nnJ, rrJ, iiJ, zIIs, zJJs, nEF, nET, and_false, false_and, jmin, jmax, catS_n, catS_i, catS_r, catS_l, Nat.reduceLeDiff, j1eq1, n21, jt0, jt1, Bool.false_eq_true, Classical.not_not, true_or, or_true, false_or, or_false, true_imp_iff, false_imp_iff, not_true_eq_false, not_false_eq_true, jif0, jif1, jifb, ltT, ltF, leT, leF, eqT, eqF, jlt, jle, jeq, jlt0, jle0, jeq0, jge0, jgt0, jinB, jnat, clt, cle, ceq, cgt, cge, lI_add, lI_sub, lI_mul, jadd, jsub, jmul, jneg, jtol, b010, b011, pv_2t, Int.toNat_natCast, Option.some.injEq, exists_eq_left', if_true, if_false, N]
  refine PW.ss (r := []) rfl (le_b rfl) rfl rfl (le_b rfl) (le_b rfl) ?_
  refine t_fillI N.2.1.2.1 N.2.1.2.2.1 N.2.1.2.2.2 (by omega) fun g f hI => ⟨rfl, ⟨f.1.2.2.1, rfl⟩, ?_⟩
  obtain ⟨go, ga, gb, g8⟩ := kp g f
  refine vs_ok 3 ?_
  rw [show ((gRes 15).drop 4).take 3 = [.aload 1, .getfield 6020, .istore 3] from rfl]
  simp (disch := omega) only [vs_getfield, vs_aload1, vs_istore3n, vs_istore3i, vs_istore3r, vs_istore3l, vs_nil, gv_0, gv_1, gv_2, gv_3, pv_0, pv_1, va_rf_s, Nat.reduceDiv, Nat.reduceMod, Nat.reduceAdd, Nat.reduceMul, Int.reduceToNat, true_and, and_true, and_self, cP_eq, cP_ne, cP_lt, cP_ge, cP_gt, cP_le, eL_i, eL_l, eL_r, eL_n, Option.toList_none, Option.toList_some, List.nil_append, List.cons_append, kkI, llI, nnI, rrI, jjI, kkJ, llJ, nnJ, rrJ, iiJ, zIIs, zJJs, nEF, nET, and_false, false_and, jmin, jmax, catS_n, catS_i, catS_r, catS_l, Nat.reduceLeDiff, j1eq1, n21, jt0, jt1, Bool.false_eq_true, Classical.not_not, true_or, or_true, false_or, or_false, true_imp_iff, false_imp_iff, not_true_eq_false, not_false_eq_true, jif0, jif1, jifb, ltT, ltF, leT, leF, eqT, eqF, jlt, jle, jeq, jlt0, jle0, jeq0, jge0, jgt0, jinB, jnat, clt, cle, ceq, cgt, cge, lI_add, lI_sub, lI_mul, jadd, jsub, jmul, jneg, jtol, b010, b011, pv_2t, Int.toNat_natCast, Option.some.injEq, exists_eq_left', if_true, if_false, ga.1.1, ga.1.2.1, ga.2.1]
  refine lo _ la g _ _ rfl (by omega) (by omega) f fun k hk => ?_
  rw [hI k hk, pS_zero fun m h1 h2 => by rw [za m (by omega), Int.zero_mul]]
