/-! FaceSearch.seek -/
theorem smN_ext {f : Nat → Nat} {a : Nat} : ∀ {b : Nat}, a ≤ b → (∀ i, a ≤ i → f i = 0) → smN f b = smN f a
  | 0, h, _ => by rw [show a = 0 by omega]
  | b + 1, h, hz => by
    by_cases c : a = b + 1
    · rw [c]
    · show smN f b + f b = smN f a
      rw [smN_ext (show a ≤ b by omega) hz, hz b (by omega), Nat.add_zero]
/-- what is kept of the paths L -/
def afL (p q ls least : Nat) (L : List Pth) (K : KpT) : KpT := L.foldl (fun K P => afF p q ls least (fX P) (fY P) K) K
abbrev skC (Wa Wb : Int → Int) (la lb : Int) (k : Nat) : Int := cvW 0 Wa Wb ((k : Int) + la + lb)
theorem t_fsSeek {D : Nat} {h : Hp} {x a b p q least p0 q0 : Nat} {va vb : RowVal} {K : KpT} {lf : Nat → Int} {X Y tr : Nat → Nat} {Q : Nat → Option Value → Hp → Prop} (ho : fsO h x) (hva : rowP h a 200 va) (hvb : rowP h b 200 vb) (ga : gV va) (gb : gV vb) (dja : ∀ q, x ≤ q → q ≤ x + 8 → q ≠ a ∧ q ≠ a + 1 ∧ q ≠ b ∧ q ≠ b + 1) (ba : 0 ≤ va.1 ∧ va.2.1 ≤ 60 ∧ va.2.2.1 ≤ 12) (bb : 0 ≤ vb.1 ∧ vb.2.1 ≤ 60 ∧ vb.2.2.1 ≤ 12) (hp : 1 ≤ p) (hpq : p ≤ q) (h64 : p * q ≤ 64) (hle : least ≤ 60) (hk : pkS h x p0 q0 K) (htr : ∀ i, i < 61 → tr i ≤ 65 ∧ zI h (x + 8) i = iI (tr i))
    (hq : ∀ g K2, fi (fsA x) h g → K2 = afL p q (va.1 + vb.1).toNat least (rtW (skC va.2.2.2 vb.2.2.2 va.1 vb.1) p q (60 - least)).1 (0, K.2.1, K.2.2.1, K.2.2.2.1, 0) → pkS g x p q K2 → (∃ tr2 : Nat → Nat, ∀ i, i < 61 → tr2 i ≤ 65 ∧ zI g (x + 8) i = iI (tr2 i)) → Q 0 (some (.int (iI K2.2.2.2.2))) g) : PR (D + 12) m_FaceSearch_seek [.ref x, .ref a, .ref b, .int (iI p), .int (iI q), .int (iI least)] h Q := by
  have N := fsF ho
  obtain ⟨ls, hls⟩ : ∃ ls : Nat, va.1 + vb.1 = (ls : Int) := ⟨(va.1 + vb.1).toNat, by omega⟩
  have a1 := ga.1
  have b1 := gb.1
  have q64 : q ≤ 64 := by
    have := Nat.mul_le_mul_right q hp
    omega
  have pq65 : p + q ≤ 65 := by
    obtain ⟨p', rfl⟩ : ∃ p', p = p' + 1 := ⟨p - 1, by omega⟩
    rw [Nat.add_mul, Nat.one_mul] at h64
    have : p' ≤ p' * q := Nat.le_mul_of_pos_right p' (by omega)
    omega
  have wa : ∀ m, 0 ≤ va.2.2.2 m ∧ va.2.2.2 m ≤ 12 := fun m => by
    refine ⟨ga.2.1 m, ?_⟩
    by_cases z : -1000 ≤ m ∧ m < 1000
    · have := tS_ge ga.2.1 z.1 z.2
      rw [← ga.2.2.2.2.1] at this
      omega
    · rw [ga.2.2.1 m (by omega)]
      omega
  have wb : ∀ m, 0 ≤ vb.2.2.2 m ∧ vb.2.2.2 m ≤ 12 := fun m => by
    refine ⟨gb.2.1 m, ?_⟩
    by_cases z : -1000 ≤ m ∧ m < 1000
    · have := tS_ge gb.2.1 z.1 z.2
      rw [← gb.2.2.2.2.1] at this
      omega
    · rw [gb.2.2.1 m (by omega)]
      omega
  have tab : 0 < va.2.2.1 * vb.2.2.1 ∧ va.2.2.1 * vb.2.2.1 ≤ 144 := by
    have t1 := ga.2.2.2.2.2.1
    have t2 := gb.2.2.2.2.2.1
    refine ⟨Int.mul_pos (by omega) (by omega), ?_⟩
    have := Int.mul_le_mul ba.2.2 bb.2.2 (by omega) (show (0 : Int) ≤ 12 by omega)
    omega
  have hok : okS 0 va vb := by
    refine ⟨?_, ?_, by omega⟩
    · show -200 ≤ (if (0 : Int32) = 0 then va.1 + vb.1 else va.1 - vb.2.1)
      rw [if_pos rfl]
      omega
    · show (if (0 : Int32) = 0 then va.2.1 + vb.2.1 else va.2.1 - vb.1) ≤ 200
      rw [if_pos rfl]
      omega
  have gad := gV_ad ga gb hok
  have hc : cOK (skC va.2.2.2 vb.2.2.2 va.1 vb.1) := fun k hk => by
    refine ⟨cv_nn ga.2.1 gb.2.1 _, ?_⟩
    have := tS_ge (f := cvW 0 va.2.2.2 vb.2.2.2) (cv_nn ga.2.1 gb.2.1) (m := (k : Int) + va.1 + vb.1) (by omega) (by omega)
    rw [cv_tot ga.spt gb.spt, ← ga.2.2.2.2.1, ← gb.2.2.2.2.1] at this
    show cvW 0 va.2.2.2 vb.2.2.2 ((k : Int) + va.1 + vb.1) ≤ 1000
    omega
  have hc0 : 1 ≤ skC va.2.2.2 vb.2.2.2 va.1 vb.1 0 := by
    have := gad.2.2.2.1.1
    change 0 < cvW 0 va.2.2.2 vb.2.2.2 (if (0 : Int32) = 0 then va.1 + vb.1 else va.1 - vb.2.1) at this
    rw [if_pos rfl] at this
    show 1 ≤ cvW 0 va.2.2.2 vb.2.2.2 (((0 : Nat) : Int) + va.1 + vb.1)
    rw [show ((0 : Nat) : Int) + va.1 + vb.1 = va.1 + vb.1 by omega]
    omega
  have hst := rtW_st (dp := 60 - least) hc0 hp hpq h64
  generalize hC : skC va.2.2.2 vb.2.2.2 va.1 vb.1 = C at *
  rw [hls] at hq
  rw [Int.toNat_natCast] at hq
  have hva0 := hva
  have hvb0 := hvb
  obtain ⟨va1, va2, va3, va4⟩ := hva
  obtain ⟨vb1, vb2, vb3, vb4⟩ := hvb
  have e60 : (60 : Int) - (least : Int) = ((60 - least : Nat) : Int) := by omega
  show PW (D + 12) 14 0 [some (.ref x), some (.ref a), some (.ref b), some (.int (iI p)), some (.int (iI q)), some (.int (iI least))] [] h Q
  refine vs_ok 9 ?_
  rw [show ((gRes 14).drop 0).take 9 = [.aload 0, .iload 3, .putfield 1050, .aload 0, .iload 4, .putfield 1060, .aload 0, .iload 5, .putfield 1070] from rfl]
  simp (disch := omega) only [vs_putfield, vs_aload0, vs_iload3, vs_iload4, vs_iload5, vs_nil, gv_0, gv_1, gv_2, gv_3, pv_0, pv_1, va_rf_s, Nat.reduceDiv, Nat.reduceMod, Nat.reduceAdd, Nat.reduceMul, Int.reduceToNat, true_and, and_true, and_self, cP_eq, cP_ne, cP_lt, cP_ge, cP_gt, cP_le, eL_i, eL_l, eL_r, eL_n, Option.toList_none, Option.toList_some, List.nil_append, List.cons_append, kkI, llI, nnI, rrI, jjI, kkJ, llJ, nnJ, rrJ, iiJ, zIIs, zJJs, nEF, nET, and_false, false_and, jmin, jmax, catS_n, catS_i, catS_r, catS_l, Nat.reduceLeDiff, j1eq1, n21, jt0, jt1, Bool.false_eq_true, Classical.not_not, true_or, or_true, false_or, or_false, true_imp_iff, false_imp_iff, not_true_eq_false, not_false_eq_true, jif0, jif1, jifb, ltT, ltF, leT, leF, eqT, eqF, jlt, jle, jeq, jlt0, jle0, jeq0, jge0, jgt0, jinB, jnat, clt, cle, ceq, cgt, cge, lI_add, lI_sub, lI_mul, jadd, jsub, jmul, jneg, jtol, b010, b011, pv_2t, Int.toNat_natCast, Option.some.injEq, exists_eq_left', if_true, if_false, N]
  have f1 : fi (fun q => q = x) h (zsI (zsI (zsI h x 5 (iI p)) x 6 (iI q)) x 7 (iI least)) := ((fi_I (S := fun q => q = x) rfl).I rfl).I rfl
  have y5 : zI (zsI (zsI (zsI h x 5 (iI p)) x 6 (iI q)) x 7 (iI least)) x 5 = iI p := by rw [zI_s, if_neg (by omega), zI_s, if_neg (by omega), zI_s, if_pos ⟨rfl, rfl⟩]
  have y6 : zI (zsI (zsI (zsI h x 5 (iI p)) x 6 (iI q)) x 7 (iI least)) x 6 = iI q := by rw [zI_s, if_neg (by omega), zI_s, if_pos ⟨rfl, rfl⟩]
  have y7 : zI (zsI (zsI (zsI h x 5 (iI p)) x 6 (iI q)) x 7 (iI least)) x 7 = iI least := by rw [zI_s, if_pos ⟨rfl, rfl⟩]
  generalize zsI (zsI (zsI h x 5 (iI p)) x 6 (iI q)) x 7 (iI least) = g1 at *
  have da := dja x (by omega) (by omega)
  have ra1 : rowP g1 a 200 va := hva0.keep f1.1 (fun z => da.1 z.symm) (fun z => da.2.1 z.symm)
  have rb1 : rowP g1 b 200 vb := hvb0.keep f1.1 (fun z => da.2.2.1 z.symm) (fun z => da.2.2.2 z.symm)
  have o1 := ho.fi f1
  have N1 := fsF o1
  refine vs_ok 22 ?_
  rw [show ((gRes 14).drop 9).take 22 = [.aload 0, .aload 1, .getfield 6020, .aload 2, .getfield 6020, .iadd, .putfield 1080, .aload 0, .iconst 60, .aload 0, .getfield 1070, .isub, .putfield 1090, .aload 0, .iconst 0, .putfield 1120, .aload 0, .iconst 0, .putfield 1100, .aload 0, .iconst 0, .putfield 1110] from rfl]
  simp (disch := omega) only [vs_iadd, vs_isub, vs_iconst, vs_getfield, vs_putfield, vs_aload0, vs_aload1, vs_aload2, vs_nil, gv_0, gv_1, gv_2, gv_3, pv_0, pv_1, va_rf_s, Nat.reduceDiv, Nat.reduceMod, Nat.reduceAdd, Nat.reduceMul, Int.reduceToNat, true_and, and_true, and_self, cP_eq, cP_ne, cP_lt, cP_ge, cP_gt, cP_le, eL_i, eL_l, eL_r, eL_n, Option.toList_none, Option.toList_some, List.nil_append, List.cons_append, kkI, llI, nnI, rrI, jjI, kkJ, llJ, nnJ, rrJ, iiJ, zIIs, zJJs, nEF, nET, and_false, false_and, jmin, jmax, catS_n, catS_i, catS_r, catS_l, Nat.reduceLeDiff, j1eq1, n21, jt0, jt1, Bool.false_eq_true, Classical.not_not, true_or, or_true, false_or, or_false, true_imp_iff, false_imp_iff, not_true_eq_false, not_false_eq_true, jif0, jif1, jifb, ltT, ltF, leT, leF, eqT, eqF, jlt, jle, jeq, jlt0, jle0, jeq0, jge0, jgt0, jinB, jnat, clt, cle, ceq, cgt, cge, lI_add, lI_sub, lI_mul, jadd, jsub, jmul, jneg, jtol, b010, b011, pv_2t, Int.toNat_natCast, Option.some.injEq, exists_eq_left', if_true, if_false, N1, ra1.1.1, ra1.1.2.1, ra1.2.1, rb1.1.1, rb1.1.2.1, rb1.2.1, hls, y7, e60]
  have f2 : fi (fun q => q = x) g1 (zsI (zsI (zsI (zsI (zsI g1 x 8 (iI ls)) x 9 (iI (60 - least : Nat))) x 12 (iI 0)) x 10 (iI 0)) x 11 (iI 0)) := ((((fi_I (S := fun q => q = x) rfl).I rfl).I rfl).I rfl).I rfl
  have z2 : ∀ i, i ≠ 8 → i ≠ 9 → i ≠ 12 → i ≠ 10 → i ≠ 11 → zI (zsI (zsI (zsI (zsI (zsI g1 x 8 (iI ls)) x 9 (iI (60 - least : Nat))) x 12 (iI 0)) x 10 (iI 0)) x 11 (iI 0)) x i = zI g1 x i := fun i h1 h2 h3 h4 h5 => by
    rw [zI_s, if_neg (by omega), zI_s, if_neg (by omega), zI_s, if_neg (by omega), zI_s, if_neg (by omega), zI_s, if_neg (by omega)]
  have y8 : zI (zsI (zsI (zsI (zsI (zsI g1 x 8 (iI ls)) x 9 (iI (60 - least : Nat))) x 12 (iI 0)) x 10 (iI 0)) x 11 (iI 0)) x 8 = iI ls := by
    rw [zI_s, if_neg (by omega), zI_s, if_neg (by omega), zI_s, if_neg (by omega), zI_s, if_neg (by omega), zI_s, if_pos ⟨rfl, rfl⟩]
  have y9 : zI (zsI (zsI (zsI (zsI (zsI g1 x 8 (iI ls)) x 9 (iI (60 - least : Nat))) x 12 (iI 0)) x 10 (iI 0)) x 11 (iI 0)) x 9 = iI (60 - least : Nat) := by
    rw [zI_s, if_neg (by omega), zI_s, if_neg (by omega), zI_s, if_neg (by omega), zI_s, if_pos ⟨rfl, rfl⟩]
  have y12 : zI (zsI (zsI (zsI (zsI (zsI g1 x 8 (iI ls)) x 9 (iI (60 - least : Nat))) x 12 (iI 0)) x 10 (iI 0)) x 11 (iI 0)) x 12 = iI 0 := by
    rw [zI_s, if_neg (by omega), zI_s, if_neg (by omega), zI_s, if_pos ⟨rfl, rfl⟩]
  have y10 : zI (zsI (zsI (zsI (zsI (zsI g1 x 8 (iI ls)) x 9 (iI (60 - least : Nat))) x 12 (iI 0)) x 10 (iI 0)) x 11 (iI 0)) x 10 = iI 0 := by
    rw [zI_s, if_neg (by omega), zI_s, if_pos ⟨rfl, rfl⟩]
  have y11 : zI (zsI (zsI (zsI (zsI (zsI g1 x 8 (iI ls)) x 9 (iI (60 - least : Nat))) x 12 (iI 0)) x 10 (iI 0)) x 11 (iI 0)) x 11 = iI 0 := by
    rw [zI_s, if_pos ⟨rfl, rfl⟩]
  generalize zsI (zsI (zsI (zsI (zsI g1 x 8 (iI ls)) x 9 (iI (60 - least : Nat))) x 12 (iI 0)) x 10 (iI 0)) x 11 (iI 0) = g2 at *
  have o2 := o1.fi f2
  have N2 := fsF o2
  have oP2 := o2.2.2.2.2.2
  have nP2 := paF oP2
  refine vs_ok 6 ?_
  rw [show ((gRes 14).drop 31).take 6 = [.aload 0, .getfield 1002, .aload 0, .getfield 1050, .aload 0, .getfield 1060] from rfl]
  simp (disch := omega) only [vs_getfield, vs_aload0, vs_nil, gv_0, gv_1, gv_2, gv_3, pv_0, pv_1, va_rf_s, Nat.reduceDiv, Nat.reduceMod, Nat.reduceAdd, Nat.reduceMul, Int.reduceToNat, true_and, and_true, and_self, cP_eq, cP_ne, cP_lt, cP_ge, cP_gt, cP_le, eL_i, eL_l, eL_r, eL_n, Option.toList_none, Option.toList_some, List.nil_append, List.cons_append, kkI, llI, nnI, rrI, jjI, kkJ, llJ, nnJ, rrJ, iiJ, zIIs, zJJs, nEF, nET, and_false, false_and, jmin, jmax, catS_n, catS_i, catS_r, catS_l, Nat.reduceLeDiff, j1eq1, n21, jt0, jt1, Bool.false_eq_true, Classical.not_not, true_or, or_true, false_or, or_false, true_imp_iff, false_imp_iff, not_true_eq_false, not_false_eq_true, jif0, jif1, jifb, ltT, ltF, leT, leF, eqT, eqF, jlt, jle, jeq, jlt0, jle0, jeq0, jge0, jgt0, jinB, jnat, clt, cle, ceq, cgt, cge, lI_add, lI_sub, lI_mul, jadd, jsub, jmul, jneg, jtol, b010, b011, pv_2t, Int.toNat_natCast, Option.some.injEq, exists_eq_left', if_true, if_false, N2, z2 5 (by omega) (by omega) (by omega) (by omega) (by omega), y5, z2 6 (by omega) (by omega) (by omega) (by omega) (by omega), y6]
  refine PW.iv rfl rfl rfl nP2.1.1 nP2.1.2 (le_b rfl) (le_b rfl) ?_
  refine t_paClear oP2 fun g3 f3 c3 c4 c5 => ⟨rfl, ⟨f3.1.2.2.1, rfl⟩, ?_⟩
  have o3 := o2.fi f3
  have N3 := fsF o3
  refine vs_ok 3 ?_
  rw [show ((gRes 14).drop 38).take 3 = [.aload 0, .getfield 1022, .iconst 0] from rfl]
  simp (disch := omega) only [vs_iconst, vs_getfield, vs_aload0, vs_nil, gv_0, gv_1, gv_2, gv_3, pv_0, pv_1, va_rf_s, Nat.reduceDiv, Nat.reduceMod, Nat.reduceAdd, Nat.reduceMul, Int.reduceToNat, true_and, and_true, and_self, cP_eq, cP_ne, cP_lt, cP_ge, cP_gt, cP_le, eL_i, eL_l, eL_r, eL_n, Option.toList_none, Option.toList_some, List.nil_append, List.cons_append, kkI, llI, nnI, rrI, jjI, kkJ, llJ, nnJ, rrJ, iiJ, zIIs, zJJs, nEF, nET, and_false, false_and, jmin, jmax, catS_n, catS_i, catS_r, catS_l, Nat.reduceLeDiff, j1eq1, n21, jt0, jt1, Bool.false_eq_true, Classical.not_not, true_or, or_true, false_or, or_false, true_imp_iff, false_imp_iff, not_true_eq_false, not_false_eq_true, jif0, jif1, jifb, ltT, ltF, leT, leF, eqT, eqF, jlt, jle, jeq, jlt0, jle0, jeq0, jge0, jgt0, jinB, jnat, clt, cle, ceq, cgt, cge, lI_add, lI_sub, lI_mul, jadd, jsub, jmul, jneg, jtol, b010, b011, pv_2t, Int.toNat_natCast, Option.some.injEq, exists_eq_left', if_true, if_false, N3]
  refine PW.ss (r := []) rfl (le_b rfl) rfl rfl (le_b rfl) (le_b rfl) ?_
  refine t_fillI N3.2.2.1.2.1 N3.2.2.1.2.2.1 N3.2.2.1.2.2.2 (by omega) fun g4 f4 i4 => ⟨rfl, ⟨f4.1.2.2.1, rfl⟩, ?_⟩
  have o4 := o3.fi f4
  have N4 := fsF o4
  refine vs_ok 3 ?_
  rw [show ((gRes 14).drop 42).take 3 = [.aload 0, .getfield 1032, .iconst 0] from rfl]
  simp (disch := omega) only [vs_iconst, vs_getfield, vs_aload0, vs_nil, gv_0, gv_1, gv_2, gv_3, pv_0, pv_1, va_rf_s, Nat.reduceDiv, Nat.reduceMod, Nat.reduceAdd, Nat.reduceMul, Int.reduceToNat, true_and, and_true, and_self, cP_eq, cP_ne, cP_lt, cP_ge, cP_gt, cP_le, eL_i, eL_l, eL_r, eL_n, Option.toList_none, Option.toList_some, List.nil_append, List.cons_append, kkI, llI, nnI, rrI, jjI, kkJ, llJ, nnJ, rrJ, iiJ, zIIs, zJJs, nEF, nET, and_false, false_and, jmin, jmax, catS_n, catS_i, catS_r, catS_l, Nat.reduceLeDiff, j1eq1, n21, jt0, jt1, Bool.false_eq_true, Classical.not_not, true_or, or_true, false_or, or_false, true_imp_iff, false_imp_iff, not_true_eq_false, not_false_eq_true, jif0, jif1, jifb, ltT, ltF, leT, leF, eqT, eqF, jlt, jle, jeq, jlt0, jle0, jeq0, jge0, jgt0, jinB, jnat, clt, cle, ceq, cgt, cge, lI_add, lI_sub, lI_mul, jadd, jsub, jmul, jneg, jtol, b010, b011, pv_2t, Int.toNat_natCast, Option.some.injEq, exists_eq_left', if_true, if_false, N4]
  refine PW.ss (r := []) rfl (le_b rfl) rfl rfl (le_b rfl) (le_b rfl) ?_
  refine t_fillI N4.2.2.2.1.2.1 N4.2.2.2.1.2.2.1 N4.2.2.2.1.2.2.2 (by omega) fun g5 f5 i5 => ⟨rfl, ⟨f5.1.2.2.1, rfl⟩, ?_⟩
  have o5 := o4.fi f5
  have N5 := fsF o5
  have r2 := f2.1.2.2.2.2.2.1
  have r3 := f3.1.2.2.2.2.2.1
  have r4 := f4.1.2.2.2.2.2.1
  have r5 := f5.1.2.2.2.2.2.1
  have gx : zI g5 x = zI g2 x := by rw [r5 _ (by omega), r4 _ (by omega), r3 _ (by omega)]
  have f15 : fi (fsA x) h g5 := (f1.wk fun q z => by unfold fsA; omega).tr ((f2.wk fun q z => by unfold fsA; omega).tr ((f3.wk fun q z => by unfold fsA; omega).tr ((f4.wk fun q z => by unfold fsA; omega).tr (f5.wk fun q z => by unfold fsA; omega))))
  have nr : ∀ q, fsA x q → ¬ (q = a ∨ q = a + 1 ∨ q = b ∨ q = b + 1) := fun q z w => by
    have := dja q z.1 z.2
    omega
  have ra5 : rowP g5 a 200 va := hva0.keep f15.1 (fun z => nr _ z (Or.inl rfl)) (fun z => nr _ z (Or.inr (Or.inl rfl)))
  have rb5 : rowP g5 b 200 vb := hvb0.keep f15.1 (fun z => nr _ z (Or.inr (Or.inr (Or.inl rfl)))) (fun z => nr _ z (Or.inr (Or.inr (Or.inr rfl))))
  refine vs_ok 3 ?_
  rw [show ((gRes 14).drop 46).take 3 = [.aload 0, .aload 1, .aload 2] from rfl]
  simp (disch := omega) only [vs_aload0, vs_aload1, vs_aload2, vs_nil, gv_0, gv_1, gv_2, gv_3, pv_0, pv_1, va_rf_s, Nat.reduceDiv, Nat.reduceMod, Nat.reduceAdd, Nat.reduceMul, Int.reduceToNat, true_and, and_true, and_self, cP_eq, cP_ne, cP_lt, cP_ge, cP_gt, cP_le, eL_i, eL_l, eL_r, eL_n, Option.toList_none, Option.toList_some, List.nil_append, List.cons_append, kkI, llI, nnI, rrI, jjI, kkJ, llJ, nnJ, rrJ, iiJ, zIIs, zJJs, nEF, nET, and_false, false_and, jmin, jmax, catS_n, catS_i, catS_r, catS_l, Nat.reduceLeDiff, j1eq1, n21, jt0, jt1, Bool.false_eq_true, Classical.not_not, true_or, or_true, false_or, or_false, true_imp_iff, false_imp_iff, not_true_eq_false, not_false_eq_true, jif0, jif1, jifb, ltT, ltF, leT, leF, eqT, eqF, jlt, jle, jeq, jlt0, jle0, jeq0, jge0, jgt0, jinB, jnat, clt, cle, ceq, cgt, cge, lI_add, lI_sub, lI_mul, jadd, jsub, jmul, jneg, jtol, b010, b011, pv_2t, Int.toNat_natCast, Option.some.injEq, exists_eq_left', if_true, if_false]
  refine PW.iv rfl rfl rfl N5.1.1 N5.1.2.1 (le_b rfl) (le_b rfl) ?_
  refine t_addUp (d := D + 9) o5 ra5 rb5 dja ⟨ba.1, ba.2.1⟩ ⟨bb.1, bb.2.1⟩ wa wb (by rw [gx, hls]; exact y8) fun g6 f6 c6 => ⟨rfl, ⟨f6.1.2.2.1, rfl⟩, ?_⟩
  have o6 := o5.fi f6
  have N6 := fsF o6
  have r6 := f6.1.2.2.2.2.2.1
  have gx6 : zI g6 x = zI g2 x := by rw [r6 _ (by omega), gx]
  have c6' : ∀ k, k < 122 → zI g6 (x + 5) k = iI (C k) := fun k hk => by
    rw [c6 k hk, ← hC]
  have s6 : fsC g6 x p q C (fun _ => 0) (fun _ => 0) tr 0 0 := by
    refine ⟨o6, ?_, ?_, fun i hi => ⟨by have := hc i hi; omega, c6' i hi⟩, fun i hi => ⟨Nat.zero_le _, ?_⟩, fun i hi => ⟨Nat.zero_le _, ?_⟩, fun i hi => ⟨(htr i hi).1, ?_⟩, ?_, ?_⟩
    · rw [gx6, z2 5 (by omega) (by omega) (by omega) (by omega) (by omega)]; exact y5
    · rw [gx6, z2 6 (by omega) (by omega) (by omega) (by omega) (by omega)]; exact y6
    · rw [r6 _ (by omega), r5 _ (by omega)]; exact i4 i hi
    · rw [r6 _ (by omega)]; exact i5 i hi
    · rw [r6 _ (by omega), r5 _ (by omega), r4 _ (by omega), r3 _ (by omega), r2 _ (by omega), f1.1.2.2.2.2.2.1 _ (by omega)]; exact (htr i hi).2
    · rw [gx6]; exact y10
    · rw [gx6]; exact y11
  have keep1 : ∀ k, x + 1 < k → k ≤ x + 4 → zI g6 k = zI h k := fun k h1 h2 => by
    rw [r6 _ (by omega), r5 _ (by omega), r4 _ (by omega), r3 _ (by omega), r2 _ (by omega), f1.1.2.2.2.2.2.1 _ (by omega)]
  have p6 : pkS g6 x p q (0, K.2.1, K.2.2.1, K.2.2.2.1, 0) := by
    obtain ⟨-, k5, k6, k7, -⟩ := hk
    have e1 : zI g6 (x + 1) = zI g3 (x + 1) := by rw [r6 _ (by omega), r5 _ (by omega), r4 _ (by omega)]
    refine ⟨⟨by rw [e1]; exact c3, by show 0 ≤ 100; omega, by rw [e1]; exact c4, by rw [e1]; exact c5⟩, fun i hi => ?_, fun i hi => ?_, fun j hj => ?_, by rw [gx6]; exact y12⟩
    · rw [keep1 _ (by omega) (by omega)]; exact k5 i hi
    · rw [keep1 _ (by omega) (by omega)]; exact k6 i hi
    · rw [keep1 _ (by omega) (by omega)]; exact k7 j hj
  have f06 : fi (fsA x) h g6 := f15.tr (f6.wk fun q z => by unfold fsA; omega)
  refine vs_ok 1 ?_
  rw [show ((gRes 14).drop 50).take 1 = [.aload 0] from rfl]
  simp (disch := omega) only [vs_aload0, vs_nil, gv_0, gv_1, gv_2, gv_3, pv_0, pv_1, va_rf_s, Nat.reduceDiv, Nat.reduceMod, Nat.reduceAdd, Nat.reduceMul, Int.reduceToNat, true_and, and_true, and_self, cP_eq, cP_ne, cP_lt, cP_ge, cP_gt, cP_le, eL_i, eL_l, eL_r, eL_n, Option.toList_none, Option.toList_some, List.nil_append, List.cons_append, kkI, llI, nnI, rrI, jjI, kkJ, llJ, nnJ, rrJ, iiJ, zIIs, zJJs, nEF, nET, and_false, false_and, jmin, jmax, catS_n, catS_i, catS_r, catS_l, Nat.reduceLeDiff, j1eq1, n21, jt0, jt1, Bool.false_eq_true, Classical.not_not, true_or, or_true, false_or, or_false, true_imp_iff, false_imp_iff, not_true_eq_false, not_false_eq_true, jif0, jif1, jifb, ltT, ltF, leT, leF, eqT, eqF, jlt, jle, jeq, jlt0, jle0, jeq0, jge0, jgt0, jinB, jnat, clt, cle, ceq, cgt, cge, lI_add, lI_sub, lI_mul, jadd, jsub, jmul, jneg, jtol, b010, b011, pv_2t, Int.toNat_natCast, Option.some.injEq, exists_eq_left', if_true, if_false]
  refine PW.iv rfl rfl rfl N6.1.1 N6.1.2.1 (le_b rfl) (le_b rfl) ?_
  refine t_walk (D := D) (J := fun L g => fsO g x ∧ zI g x 5 = iI p ∧ zI g x 6 = iI q ∧ zI g x 7 = iI least ∧ zI g x 8 = iI ls ∧ pkS g x p q (afL p q ls least L (0, K.2.1, K.2.2.1, K.2.2.2.1, 0))) hc (by omega) q64 (by omega) (fun L g g2 hj f z => ?_) (fun L P g tr Q' hl hsx hsy hs h9 hj hq' => ?_) s6 (by rw [gx6]; exact y9) ⟨o6, s6.2.1, s6.2.2.1, by rw [gx6, z2 7 (by omega) (by omega) (by omega) (by omega) (by omega)]; exact y7, by rw [gx6]; exact y8, p6⟩ hst fun g f hj tt => ⟨rfl, ⟨f.1.2.2.1, rfl⟩, ?_⟩
  · obtain ⟨j1, j2, j3, j4, j5, j6⟩ := hj
    have r := f.1.2.2.2.2.2.1
    refine ⟨j1.fi f, by rw [z 5 (by omega) (by omega)]; exact j2, by rw [z 6 (by omega) (by omega)]; exact j3, by rw [z 7 (by omega) (by omega)]; exact j4, by rw [z 8 (by omega) (by omega)]; exact j5, ?_⟩
    obtain ⟨k1, k2, k3, k4, k5⟩ := j6
    rw [pkS, r _ (by unfold seS; omega), r _ (by unfold seS; omega), r _ (by unfold seS; omega), r _ (by unfold seS; omega), z 12 (by omega) (by omega)]
    exact ⟨k1, k2, k3, k4, k5⟩
  · obtain ⟨j1, j2, j3, j4, j5, j6⟩ := hj
    obtain ⟨-, -, -, -, ax, ay, -⟩ := id hs
    have sx : smN (fX P) 61 = p := by rw [smN_ext hl fun i hi => (fX_ge hi).1]; exact hsx
    have sy : smN (fY P) 61 = q := by rw [smN_ext hl fun i hi => (fX_ge hi).2]; exact hsy
    refine t_addFound (d := D + 8) j1 j2 j3 j4 j5 j6 ax ay (by omega) hle sx sy pq65 fun g2 f2 z2' k2 => hq' g2 f2 z2' ⟨j1.fi f2, by rw [z2' 5 (by omega)]; exact j2, by rw [z2' 6 (by omega)]; exact j3, by rw [z2' 7 (by omega)]; exact j4, by rw [z2' 8 (by omega)]; exact j5, ?_⟩
    have e : afL p q ls least (L ++ [P]) (0, K.2.1, K.2.2.1, K.2.2.2.1, 0) = afF p q ls least (fX P) (fY P) (afL p q ls least L (0, K.2.1, K.2.2.1, K.2.2.2.1, 0)) := by
      unfold afL
      rw [List.foldl_append]
      rfl
    rw [e]
    exact k2
  · obtain ⟨j1, j2, j3, j4, j5, j6⟩ := hj
    have Ng := fsF j1
    refine vs_ok 3 ?_
    rw [show ((gRes 14).drop 52).take 3 = [.aload 0, .getfield 1120, .ireturn] from rfl]
    simp (disch := omega) only [vs_getfield, vs_ireturn, vs_aload0, vs_nil, gv_0, gv_1, gv_2, gv_3, pv_0, pv_1, va_rf_s, Nat.reduceDiv, Nat.reduceMod, Nat.reduceAdd, Nat.reduceMul, Int.reduceToNat, true_and, and_true, and_self, cP_eq, cP_ne, cP_lt, cP_ge, cP_gt, cP_le, eL_i, eL_l, eL_r, eL_n, Option.toList_none, Option.toList_some, List.nil_append, List.cons_append, kkI, llI, nnI, rrI, jjI, kkJ, llJ, nnJ, rrJ, iiJ, zIIs, zJJs, nEF, nET, and_false, false_and, jmin, jmax, catS_n, catS_i, catS_r, catS_l, Nat.reduceLeDiff, j1eq1, n21, jt0, jt1, Bool.false_eq_true, Classical.not_not, true_or, or_true, false_or, or_false, true_imp_iff, false_imp_iff, not_true_eq_false, not_false_eq_true, jif0, jif1, jifb, ltT, ltF, leT, leF, eqT, eqF, jlt, jle, jeq, jlt0, jle0, jeq0, jge0, jgt0, jinB, jnat, clt, cle, ceq, cgt, cge, lI_add, lI_sub, lI_mul, jadd, jsub, jmul, jneg, jtol, b010, b011, pv_2t, Int.toNat_natCast, Option.some.injEq, exists_eq_left', if_true, if_false, Ng, j6.2.2.2.2, show gRc 14 = 1 from rfl]
    exact hq g _ (f06.tr f) rfl j6 tt
