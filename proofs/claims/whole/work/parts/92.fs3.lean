/-! FaceSearch: take -/
/-- what the first m laid with degree d make at k -/
def ckS (X Y : Nat → Nat) (d m k : Nat) : Int := if d ≤ k ∧ k < d + m then (X d : Int) * Y (k - d) + (Y d : Int) * X (k - d) else 0
/-- what degree d makes at k with all laid up to it -/
def ckF (X Y : Nat → Nat) (d k : Nat) : Int := ckS X Y d d k + (if k = 2 * d then (X d : Int) * Y d else 0)
theorem mu_b {a b : Nat} (ha : a ≤ 64) (hb : b ≤ 64) : 0 ≤ (a : Int) * b ∧ (a : Int) * b ≤ 4096 := by
  have e : ((a * b : Nat) : Int) = (a : Int) * b := Int.natCast_mul _ _
  have := Nat.mul_le_mul ha hb
  omega
/-- none is below 0 among those from d to d + m - 1 -/
def enB (f : Nat → Int) (d m : Nat) : Prop := ∀ k, d ≤ k → k < d + m → 0 ≤ f k
theorem t_takeNeg {d : Nat} {h : Hp} {x : Nat} {e s : Int} {Q : Nat → Option Value → Hp → Prop} (he : i32 e) (hn : e < 0 ∨ 61 ≤ e) (hq : Q 0 (some (.int (iI 0))) h) : PR d m_FaceSearch_take [.ref x, .int (iI e), .int (iI s)] h Q := by
  have h1 := he.1
  have h2 := he.2
  show PW d 19 0 [some (.ref x), some (.int (iI e)), some (.int (iI s)), none, none] [] h Q
  by_cases c : e < 0
  · refine vs_ok 2 ?_
    rw [show ((gRes 19).drop 0).take 2 = [.iload 1, .ifCond .lt 5] from rfl]
    simp (disch := omega) only [vs_ifCond, vs_iload1, vs_nil, gv_0, gv_1, gv_2, gv_3, pv_0, pv_1, va_rf_s, Nat.reduceDiv, Nat.reduceMod, Nat.reduceAdd, Nat.reduceMul, Int.reduceToNat, true_and, and_true, and_self, cP_eq, cP_ne, cP_lt, cP_ge, cP_gt, cP_le, eL_i, eL_l, eL_r, eL_n, Option.toList_none, Option.toList_some, List.nil_append, List.cons_append, kkI, llI, nnI, rrI, jjI, kkJ, llJ, nnJ, rrJ, iiJ, zIIs, zJJs, nEF, nET, and_false, false_and, jmin, jmax, catS_n, catS_i, catS_r, catS_l, Nat.reduceLeDiff, j1eq1, n21, jt0, jt1, Bool.false_eq_true, Classical.not_not, true_or, or_true, false_or, or_false, true_imp_iff, false_imp_iff, not_true_eq_false, not_false_eq_true, jif0, jif1, jifb, ltT, ltF, leT, leF, eqT, eqF, jlt, jle, jeq, jlt0, jle0, jeq0, jge0, jgt0, jinB, jnat, clt, cle, ceq, cgt, cge, lI_add, lI_sub, lI_mul, jadd, jsub, jmul, jneg, jtol, b010, b011, pv_2t, Int.toNat_natCast, Option.some.injEq, exists_eq_left', if_true, if_false]
    refine vs_ok 2 ?_
    rw [show ((gRes 19).drop 5).take 2 = [.iconst 0, .ireturn] from rfl]
    simp (disch := omega) only [vs_iconst, vs_ireturn, vs_nil, gv_0, gv_1, gv_2, gv_3, pv_0, pv_1, va_rf_s, Nat.reduceDiv, Nat.reduceMod, Nat.reduceAdd, Nat.reduceMul, Int.reduceToNat, true_and, and_true, and_self, cP_eq, cP_ne, cP_lt, cP_ge, cP_gt, cP_le, eL_i, eL_l, eL_r, eL_n, Option.toList_none, Option.toList_some, List.nil_append, List.cons_append, kkI, llI, nnI, rrI, jjI, kkJ, llJ, nnJ, rrJ, iiJ, zIIs, zJJs, nEF, nET, and_false, false_and, jmin, jmax, catS_n, catS_i, catS_r, catS_l, Nat.reduceLeDiff, j1eq1, n21, jt0, jt1, Bool.false_eq_true, Classical.not_not, true_or, or_true, false_or, or_false, true_imp_iff, false_imp_iff, not_true_eq_false, not_false_eq_true, jif0, jif1, jifb, ltT, ltF, leT, leF, eqT, eqF, jlt, jle, jeq, jlt0, jle0, jeq0, jge0, jgt0, jinB, jnat, clt, cle, ceq, cgt, cge, lI_add, lI_sub, lI_mul, jadd, jsub, jmul, jneg, jtol, b010, b011, pv_2t, Int.toNat_natCast, Option.some.injEq, exists_eq_left', if_true, if_false, show gRc 19 = 2 from rfl]
    exact hq
  · refine vs_ok 7 ?_
    rw [show ((gRes 19).drop 0).take 7 = [.iload 1, .ifCond .lt 5, .iload 1, .iconst 61, .if_icmp .lt 7, .iconst 0, .ireturn] from rfl]
    simp (disch := omega) only [vs_iconst, vs_if_icmp, vs_ifCond, vs_ireturn, vs_iload1, vs_nil, gv_0, gv_1, gv_2, gv_3, pv_0, pv_1, va_rf_s, Nat.reduceDiv, Nat.reduceMod, Nat.reduceAdd, Nat.reduceMul, Int.reduceToNat, true_and, and_true, and_self, cP_eq, cP_ne, cP_lt, cP_ge, cP_gt, cP_le, eL_i, eL_l, eL_r, eL_n, Option.toList_none, Option.toList_some, List.nil_append, List.cons_append, kkI, llI, nnI, rrI, jjI, kkJ, llJ, nnJ, rrJ, iiJ, zIIs, zJJs, nEF, nET, and_false, false_and, jmin, jmax, catS_n, catS_i, catS_r, catS_l, Nat.reduceLeDiff, j1eq1, n21, jt0, jt1, Bool.false_eq_true, Classical.not_not, true_or, or_true, false_or, or_false, true_imp_iff, false_imp_iff, not_true_eq_false, not_false_eq_true, jif0, jif1, jifb, ltT, ltF, leT, leF, eqT, eqF, jlt, jle, jeq, jlt0, jle0, jeq0, jge0, jgt0, jinB, jnat, clt, cle, ceq, cgt, cge, lI_add, lI_sub, lI_mul, jadd, jsub, jmul, jneg, jtol, b010, b011, pv_2t, Int.toNat_natCast, Option.some.injEq, exists_eq_left', if_true, if_false, show gRc 19 = 2 from rfl]
    exact hq
theorem t_take9 {d : Nat} {h : Hp} {x p q e lx ly : Nat} {s : Int} {lf : Nat → Int} {X Y tr : Nat → Nat} {Q : Nat → Option Value → Hp → Prop} (hs : fsC h x p q lf X Y tr lx ly) (he : e < 61) (hsg : s = 1 ∨ s = -1)
    (hq : ∀ g (b : Prop) [Decidable b], fi (fun q => q = x ∨ q = x + 5) h g → (∀ i, i ≠ 10 → i ≠ 11 → zI g x i = zI h x i) → zI g x 10 = iI ((lx : Int) - s * X e) → zI g x 11 = iI ((ly : Int) - s * Y e) → (∀ i, i < 122 → zI g (x + 5) i = iI (lf i + s * ckF X Y e i)) → (b ↔ (X e = 0 ∧ Y e = 0) ∨ enB (fun i => lf i + s * ckF X Y e i) e (e + 1)) → Q 0 (some (.int (iI (if b then 1 else 0)))) g) : PR d m_FaceSearch_take [.ref x, .int (iI e), .int (iI s)] h Q := by
  obtain ⟨ho, h5, h6, hl, hx, hy, ht, h10, h11⟩ := id hs
  have N := fsF ho
  have xe := hx e he
  have ye := hy e he
  show PW d 19 0 [some (.ref x), some (.int (iI e)), some (.int (iI s)), none, none] [] h Q
  -- the numbers that are laid
  have fA : fi (fun q => q = x) h (zsI (zsI h x 10 (iI ((lx : Int) - s * X e))) x 11 (iI ((ly : Int) - s * Y e))) := (fi_I (S := fun q => q = x) rfl).I rfl
  have zA : ∀ i, i ≠ 10 → i ≠ 11 → zI (zsI (zsI h x 10 (iI ((lx : Int) - s * X e))) x 11 (iI ((ly : Int) - s * Y e))) x i = zI h x i := fun i h1 h2 => by rw [zI_s, if_neg (fun z => h2 z.2), zI_s, if_neg (fun z => h1 z.2)]
  have zX : zI (zsI (zsI h x 10 (iI ((lx : Int) - s * X e))) x 11 (iI ((ly : Int) - s * Y e))) x 10 = iI ((lx : Int) - s * X e) := by rw [zI_s, if_neg (by omega), zI_s, if_pos ⟨rfl, rfl⟩]
  have zY : zI (zsI (zsI h x 10 (iI ((lx : Int) - s * X e))) x 11 (iI ((ly : Int) - s * Y e))) x 11 = iI ((ly : Int) - s * Y e) := by rw [zI_s, if_pos ⟨rfl, rfl⟩]
  have z6 : zI (zsI (zsI h x 10 (iI ((lx : Int) - s * X e))) x 11 (iI ((ly : Int) - s * Y e))) (x + 6) = zI h (x + 6) := fA.1.2.2.2.2.2.1 _ (by omega)
  have z7 : zI (zsI (zsI h x 10 (iI ((lx : Int) - s * X e))) x 11 (iI ((ly : Int) - s * Y e))) (x + 7) = zI h (x + 7) := fA.1.2.2.2.2.2.1 _ (by omega)
  have z5 : zI (zsI (zsI h x 10 (iI ((lx : Int) - s * X e))) x 11 (iI ((ly : Int) - s * Y e))) (x + 5) = zI h (x + 5) := fA.1.2.2.2.2.2.1 _ (by omega)
  refine vs_ok 7 ?_
  rw [show ((gRes 19).drop 0).take 7 = [.iload 1, .ifCond .lt 5, .iload 1, .iconst 61, .if_icmp .lt 7, .iconst 0, .ireturn] from rfl]
  simp (disch := omega) only [vs_iconst, vs_if_icmp, vs_ifCond, vs_ireturn, vs_iload1, vs_nil, gv_0, gv_1, gv_2, gv_3, pv_0, pv_1, va_rf_s, Nat.reduceDiv, Nat.reduceMod, Nat.reduceAdd, Nat.reduceMul, Int.reduceToNat, true_and, and_true, and_self, cP_eq, cP_ne, cP_lt, cP_ge, cP_gt, cP_le, eL_i, eL_l, eL_r, eL_n, Option.toList_none, Option.toList_some, List.nil_append, List.cons_append, kkI, llI, nnI, rrI, jjI, kkJ, llJ, nnJ, rrJ, iiJ, zIIs, zJJs, nEF, nET, and_false, false_and, jmin, jmax, catS_n, catS_i, catS_r, catS_l, Nat.reduceLeDiff, j1eq1, n21, jt0, jt1, Bool.false_eq_true, Classical.not_not, true_or, or_true, false_or, or_false, true_imp_iff, false_imp_iff, not_true_eq_false, not_false_eq_true, jif0, jif1, jifb, ltT, ltF, leT, leF, eqT, eqF, jlt, jle, jeq, jlt0, jle0, jeq0, jge0, jgt0, jinB, jnat, clt, cle, ceq, cgt, cge, lI_add, lI_sub, lI_mul, jadd, jsub, jmul, jneg, jtol, b010, b011, pv_2t, Int.toNat_natCast, Option.some.injEq, exists_eq_left', if_true, if_false, N, h10, h11, xe.2, ye.2, show gRc 19 = 2 from rfl]
  refine vs_ok 24 ?_
  rw [show ((gRes 19).drop 7).take 24 = [.aload 0, .dup, .getfield 1100, .iload 2, .aload 0, .getfield 1022, .iload 1, .iaload, .imul, .isub, .putfield 1100, .aload 0, .dup, .getfield 1110, .iload 2, .aload 0, .getfield 1032, .iload 1, .iaload, .imul, .isub, .putfield 1110, .iconst 1, .istore 3] from rfl]
  simp (disch := omega) only [vs_isub, vs_imul, vs_iconst, vs_getfield, vs_putfield, vs_iaload, vs_dupi, vs_dupr, vs_aload0, vs_iload1, vs_iload2, vs_istore3n, vs_istore3i, vs_istore3r, vs_istore3l, vs_nil, gv_0, gv_1, gv_2, gv_3, pv_0, pv_1, va_rf_s, Nat.reduceDiv, Nat.reduceMod, Nat.reduceAdd, Nat.reduceMul, Int.reduceToNat, true_and, and_true, and_self, cP_eq, cP_ne, cP_lt, cP_ge, cP_gt, cP_le, eL_i, eL_l, eL_r, eL_n, Option.toList_none, Option.toList_some, List.nil_append, List.cons_append, kkI, llI, nnI, rrI, jjI, kkJ, llJ, nnJ, rrJ, iiJ, zIIs, zJJs, nEF, nET, and_false, false_and, jmin, jmax, catS_n, catS_i, catS_r, catS_l, Nat.reduceLeDiff, j1eq1, n21, jt0, jt1, Bool.false_eq_true, Classical.not_not, true_or, or_true, false_or, or_false, true_imp_iff, false_imp_iff, not_true_eq_false, not_false_eq_true, jif0, jif1, jifb, ltT, ltF, leT, leF, eqT, eqF, jlt, jle, jeq, jlt0, jle0, jeq0, jge0, jgt0, jinB, jnat, clt, cle, ceq, cgt, cge, lI_add, lI_sub, lI_mul, jadd, jsub, jmul, jneg, jtol, b010, b011, pv_2t, Int.toNat_natCast, Option.some.injEq, exists_eq_left', if_true, if_false, N, h10, h11, xe.2, ye.2]
  generalize zsI (zsI h x 10 (iI ((lx : Int) - s * X e))) x 11 (iI ((ly : Int) - s * Y e)) = g0 at *
  have o0 := ho.fi fA
  have N0 := fsF o0
  by_cases c0 : X e = 0 ∧ Y e = 0
  · have q := hq g0 True (fA.wk fun q z => Or.inl z) zA zX zY (fun i hi => by
      rw [z5, (hl i hi).2]
      have : ckF X Y e i = 0 := by
        unfold ckF ckS
        rw [c0.1, c0.2]
        simp
      rw [this, Int.mul_zero, Int.add_zero]) ⟨fun _ => Or.inl c0, fun _ => trivial⟩
    rw [if_pos trivial] at q
    refine vs_ok 55 ?_
    rw [show ((gRes 19).drop 31).take 55 = [.aload 0, .getfield 1022, .iload 1, .iaload, .ifCond .ne 41, .aload 0, .getfield 1032, .iload 1, .iaload, .ifCond .eq 124, .iconst 0, .istore 4, .iload 4, .iload 1, .if_icmp .ge 91, .aload 0, .getfield 1012, .iload 1, .iload 4, .iadd, .dup2, .iaload, .iload 2, .aload 0, .getfield 1022, .iload 1, .iaload, .aload 0, .getfield 1032, .iload 4, .iaload, .imul, .aload 0, .getfield 1032, .iload 1, .iaload, .aload 0, .getfield 1022, .iload 4, .iaload, .imul, .iadd, .imul, .iadd, .iastore, .iload 3, .aload 0, .getfield 1012, .iload 1, .iload 4, .iadd, .iaload, .ifCond .lt 86, .iconst 1, .goto 87] from rfl]
    simp (disch := omega) only [vs_iadd, vs_imul, vs_iconst, vs_goto, vs_if_icmp, vs_ifCond, vs_getfield, vs_iaload, vs_iastore, vs_dup2, vs_aload0, vs_iload1, vs_iload2, vs_iload3, vs_iload4, vs_istore4n, vs_istore4i, vs_istore4r, vs_istore4l, vs_nil, gv_0, gv_1, gv_2, gv_3, pv_0, pv_1, va_rf_s, Nat.reduceDiv, Nat.reduceMod, Nat.reduceAdd, Nat.reduceMul, Int.reduceToNat, true_and, and_true, and_self, cP_eq, cP_ne, cP_lt, cP_ge, cP_gt, cP_le, eL_i, eL_l, eL_r, eL_n, Option.toList_none, Option.toList_some, List.nil_append, List.cons_append, kkI, llI, nnI, rrI, jjI, kkJ, llJ, nnJ, rrJ, iiJ, zIIs, zJJs, nEF, nET, and_false, false_and, jmin, jmax, catS_n, catS_i, catS_r, catS_l, Nat.reduceLeDiff, j1eq1, n21, jt0, jt1, Bool.false_eq_true, Classical.not_not, true_or, or_true, false_or, or_false, true_imp_iff, false_imp_iff, not_true_eq_false, not_false_eq_true, jif0, jif1, jifb, ltT, ltF, leT, leF, eqT, eqF, jlt, jle, jeq, jlt0, jle0, jeq0, jge0, jgt0, jinB, jnat, clt, cle, ceq, cgt, cge, lI_add, lI_sub, lI_mul, jadd, jsub, jmul, jneg, jtol, b010, b011, pv_2t, Int.toNat_natCast, Option.some.injEq, exists_eq_left', if_true, if_false, N0, z6, z7, xe.2, ye.2, c0.1, c0.2]
    refine vs_ok 2 ?_
    rw [show ((gRes 19).drop 124).take 2 = [.iload 3, .ireturn] from rfl]
    simp (disch := omega) only [vs_ireturn, vs_iload3, vs_nil, gv_0, gv_1, gv_2, gv_3, pv_0, pv_1, va_rf_s, Nat.reduceDiv, Nat.reduceMod, Nat.reduceAdd, Nat.reduceMul, Int.reduceToNat, true_and, and_true, and_self, cP_eq, cP_ne, cP_lt, cP_ge, cP_gt, cP_le, eL_i, eL_l, eL_r, eL_n, Option.toList_none, Option.toList_some, List.nil_append, List.cons_append, kkI, llI, nnI, rrI, jjI, kkJ, llJ, nnJ, rrJ, iiJ, zIIs, zJJs, nEF, nET, and_false, false_and, jmin, jmax, catS_n, catS_i, catS_r, catS_l, Nat.reduceLeDiff, j1eq1, n21, jt0, jt1, Bool.false_eq_true, Classical.not_not, true_or, or_true, false_or, or_false, true_imp_iff, false_imp_iff, not_true_eq_false, not_false_eq_true, jif0, jif1, jifb, ltT, ltF, leT, leF, eqT, eqF, jlt, jle, jeq, jlt0, jle0, jeq0, jge0, jgt0, jinB, jnat, clt, cle, ceq, cgt, cge, lI_add, lI_sub, lI_mul, jadd, jsub, jmul, jneg, jtol, b010, b011, pv_2t, Int.toNat_natCast, Option.some.injEq, exists_eq_left', if_true, if_false, show gRc 19 = 2 from rfl]
    exact q
  · -- what is to be added at degree e + j
    have mb : ∀ j, j < 61 → -10000 ≤ s * ((X e : Int) * Y j + (Y e : Int) * X j) ∧ s * ((X e : Int) * Y j + (Y e : Int) * X j) ≤ 10000 := fun j hj => by
      have m1 := mu_b xe.1 (hy j hj).1
      have m2 := mu_b ye.1 (hx j hj).1
      rcases hsg with z | z <;> subst z <;> omega
    have md : -10000 ≤ s * (X e : Int) * Y e ∧ s * (X e : Int) * Y e ≤ 10000 := by
      have m1 := mu_b xe.1 ye.1
      rw [Int.mul_assoc]
      rcases hsg with z | z <;> subst z <;> omega
    have ckl : ∀ m k, k ≠ e + m → ckS X Y e (m + 1) k = ckS X Y e m k := fun m k hk => by
      unfold ckS
      by_cases c : e ≤ k ∧ k < e + m
      · rw [if_pos c, if_pos (by omega)]
      · rw [if_neg c, if_neg (by omega)]
    have ckh : ∀ m, ckS X Y e (m + 1) (e + m) = (X e : Int) * Y m + (Y e : Int) * X m := fun m => by
      unfold ckS
      rw [if_pos (by omega), show e + m - e = m by omega]
    have ck0 : ∀ m, ckS X Y e m (e + m) = 0 := fun m => by
      unfold ckS
      rw [if_neg (by omega)]
    have ee : (2 : Int) * (e : Int) = ((2 * e : Nat) : Int) := by omega
    have b01 : ∀ (u v : Prop) [Decidable u] [Decidable v], Int32.ofInt (if u then 1 else 0) &&& Int32.ofInt (if v then 1 else 0) = Int32.ofInt (if u ∧ v then 1 else 0) := fun u v _ _ => by
      by_cases c1 : u <;> by_cases c2 : v
      · rw [if_pos c1, if_pos c2, if_pos ⟨c1, c2⟩]; rfl
      · rw [if_pos c1, if_neg c2, if_neg (fun z => c2 z.2)]; rfl
      · rw [if_neg c1, if_pos c2, if_neg (fun z => c1 z.1)]; rfl
      · rw [if_neg c1, if_neg c2, if_neg (fun z => c1 z.1)]; rfl
    have lp : ∀ (k j : Nat) (b : Prop) [Decidable b] (g : Hp), k + j = e → fi (fun q => q = x + 5) g0 g → (∀ i, i < 122 → zI g (x + 5) i = iI (lf i + s * ckS X Y e j i)) → (b ↔ enB (fun i => lf i + s * ckS X Y e j i) e j) → PW d 19 43 [some (.ref x), some (.int (iI e)), some (.int (iI s)), some (.int (iI (if b then 1 else 0))), some (.int (iI j))] [] g Q := by
      intro k
      induction k with
      | zero =>
        intro j b _ g hk f hI hb
        have ej : j = e := by omega
        subst ej
        have Ng := fsF (o0.fi f)
        have r := f.1.2.2.2.2.2.1
        have g6 : zI g (x + 6) = zI h (x + 6) := by rw [r _ (by omega)]; exact z6
        have g7 : zI g (x + 7) = zI h (x + 7) := by rw [r _ (by omega)]; exact z7
        have hI2 := hI (2 * j) (by omega)
        rw [show 2 * j = j + j by omega, ck0, Int.mul_zero, Int.add_zero, show j + j = 2 * j by omega] at hI2
        have lb := (hl (2 * j) (by omega)).1
        refine vs_ok 3 ?_
        rw [show ((gRes 19).drop 43).take 3 = [.iload 4, .iload 1, .if_icmp .ge 91] from rfl]
        simp (disch := omega) only [vs_if_icmp, vs_iload1, vs_iload4, vs_nil, gv_0, gv_1, gv_2, gv_3, pv_0, pv_1, va_rf_s, Nat.reduceDiv, Nat.reduceMod, Nat.reduceAdd, Nat.reduceMul, Int.reduceToNat, true_and, and_true, and_self, cP_eq, cP_ne, cP_lt, cP_ge, cP_gt, cP_le, eL_i, eL_l, eL_r, eL_n, Option.toList_none, Option.toList_some, List.nil_append, List.cons_append, kkI, llI, nnI, rrI, jjI, kkJ, llJ, nnJ, rrJ, iiJ, zIIs, zJJs, nEF, nET, and_false, false_and, jmin, jmax, catS_n, catS_i, catS_r, catS_l, Nat.reduceLeDiff, j1eq1, n21, jt0, jt1, Bool.false_eq_true, Classical.not_not, true_or, or_true, false_or, or_false, true_imp_iff, false_imp_iff, not_true_eq_false, not_false_eq_true, jif0, jif1, jifb, ltT, ltF, leT, leF, eqT, eqF, jlt, jle, jeq, jlt0, jle0, jeq0, jge0, jgt0, jinB, jnat, clt, cle, ceq, cgt, cge, lI_add, lI_sub, lI_mul, jadd, jsub, jmul, jneg, jtol, b010, b011, pv_2t, Int.toNat_natCast, Option.some.injEq, exists_eq_left', if_true, if_false]
        refine vs_ok 20 ?_
        rw [show ((gRes 19).drop 91).take 20 = [.aload 0, .getfield 1012, .iconst 2, .iload 1, .imul, .dup2, .iaload, .iload 2, .aload 0, .getfield 1022, .iload 1, .iaload, .imul, .aload 0, .getfield 1032, .iload 1, .iaload, .imul, .iadd, .iastore] from rfl]
        simp (disch := omega) only [vs_iadd, vs_imul, vs_iconst, vs_getfield, vs_iaload, vs_iastore, vs_dup2, vs_aload0, vs_iload1, vs_iload2, vs_nil, gv_0, gv_1, gv_2, gv_3, pv_0, pv_1, va_rf_s, Nat.reduceDiv, Nat.reduceMod, Nat.reduceAdd, Nat.reduceMul, Int.reduceToNat, true_and, and_true, and_self, cP_eq, cP_ne, cP_lt, cP_ge, cP_gt, cP_le, eL_i, eL_l, eL_r, eL_n, Option.toList_none, Option.toList_some, List.nil_append, List.cons_append, kkI, llI, nnI, rrI, jjI, kkJ, llJ, nnJ, rrJ, iiJ, zIIs, zJJs, nEF, nET, and_false, false_and, jmin, jmax, catS_n, catS_i, catS_r, catS_l, Nat.reduceLeDiff, j1eq1, n21, jt0, jt1, Bool.false_eq_true, Classical.not_not, true_or, or_true, false_or, or_false, true_imp_iff, false_imp_iff, not_true_eq_false, not_false_eq_true, jif0, jif1, jifb, ltT, ltF, leT, leF, eqT, eqF, jlt, jle, jeq, jlt0, jle0, jeq0, jge0, jgt0, jinB, jnat, clt, cle, ceq, cgt, cge, lI_add, lI_sub, lI_mul, jadd, jsub, jmul, jneg, jtol, b010, b011, pv_2t, Int.toNat_natCast, Option.some.injEq, exists_eq_left', if_true, if_false, Ng, ee, hI2, g6, g7, xe.2, ye.2]
        have hfin : ∀ i, i < 122 → zI (zsI g (x + 5) (2 * j) (iI (lf (2 * j) + s * (X j : Int) * Y j))) (x + 5) i = iI (lf i + s * ckF X Y j i) := fun i hi => by
          rw [zI_s]
          unfold ckF
          by_cases c : i = 2 * j
          · rw [if_pos ⟨rfl, c⟩, if_pos c, c, show 2 * j = j + j by omega, ck0, Int.zero_add, Int.mul_assoc]
          · rw [if_neg (fun z => c z.2), if_neg c, Int.add_zero]
            exact hI i hi
        have f2 : fi (fun q => q = x + 5) g0 (zsI g (x + 5) (2 * j) (iI (lf (2 * j) + s * (X j : Int) * Y j))) := f.I rfl
        have v2 : zI (zsI g (x + 5) (2 * j) (iI (lf (2 * j) + s * (X j : Int) * Y j))) (x + 5) (2 * j) = iI (lf (2 * j) + s * (X j : Int) * Y j) := by rw [zI_s, if_pos ⟨rfl, rfl⟩]
        generalize zsI g (x + 5) (2 * j) (iI (lf (2 * j) + s * (X j : Int) * Y j)) = g2 at *
        have N2 := fsF (o0.fi f2)
        have r2 := f2.1.2.2.2.2.2.1
        have fin : ∀ (v : Prop) [Decidable v], (v ↔ 0 ≤ lf (2 * j) + s * (X j : Int) * Y j) → PW d 19 122 [some (.ref x), some (.int (iI j)), some (.int (iI s)), some (.int (iI (if b then 1 else 0))), some (.int (iI j))] [.int (iI (if v then 1 else 0)), .int (iI (if b then 1 else 0))] g2 Q := fun v _ hv => by
          have q := hq g2 (b ∧ v) ((fA.wk fun q z => Or.inl z).tr (f2.wk fun q z => Or.inr z)) (fun i h1 h2 => by rw [r2 _ (by omega)]; exact zA i h1 h2) (by rw [r2 _ (by omega)]; exact zX) (by rw [r2 _ (by omega)]; exact zY) hfin ?_
          · refine vs_ok 4 ?_
            rw [show ((gRes 19).drop 122).take 4 = [.iand, .istore 3, .iload 3, .ireturn] from rfl]
            simp (disch := omega) only [vs_ireturn, vs_iload3, vs_istore3n, vs_istore3i, vs_istore3r, vs_istore3l, vs_nil, gv_0, gv_1, gv_2, gv_3, pv_0, pv_1, va_rf_s, vs_iand, Nat.reduceDiv, Nat.reduceMod, Nat.reduceAdd, Nat.reduceMul, Int.reduceToNat, true_and, and_true, and_self, cP_eq, cP_ne, cP_lt, cP_ge, cP_gt, cP_le, eL_i, eL_l, eL_r, eL_n, Option.toList_none, Option.toList_some, List.nil_append, List.cons_append, kkI, llI, nnI, rrI, jjI, kkJ, llJ, nnJ, rrJ, iiJ, zIIs, zJJs, nEF, nET, and_false, false_and, jmin, jmax, catS_n, catS_i, catS_r, catS_l, Nat.reduceLeDiff, j1eq1, n21, jt0, jt1, Bool.false_eq_true, Classical.not_not, true_or, or_true, false_or, or_false, true_imp_iff, false_imp_iff, not_true_eq_false, not_false_eq_true, jif0, jif1, jifb, ltT, ltF, leT, leF, eqT, eqF, jlt, jle, jeq, jlt0, jle0, jeq0, jge0, jgt0, jinB, jnat, clt, cle, ceq, cgt, cge, lI_add, lI_sub, lI_mul, jadd, jsub, jmul, jneg, jtol, b010, b011, pv_2t, Int.toNat_natCast, Option.some.injEq, exists_eq_left', if_true, if_false, b01, show gRc 19 = 2 from rfl]
            refine ⟨?_, q⟩
            by_cases z : b ∧ v
            · right
              rw [if_pos z]
              rfl
            · exact Or.inl z
          · have e3 : ∀ k, k < j + j → ckF X Y j k = ckS X Y j j k := fun k hk => by
              unfold ckF
              rw [if_neg (by omega), Int.add_zero]
            have e4 : ckF X Y j (j + j) = (X j : Int) * Y j := by
              unfold ckF
              rw [if_pos (by omega), ck0, Int.zero_add]
            constructor
            · rintro ⟨w1, w2⟩
              right
              intro k hk1 hk2
              show 0 ≤ lf k + s * ckF X Y j k
              by_cases c : k = j + j
              · rw [c, e4, ← Int.mul_assoc, show j + j = 2 * j by omega]
                exact hv.mp w2
              · rw [e3 k (by omega)]
                exact hb.mp w1 k hk1 (by omega)
            · intro w
              have w := w.resolve_left c0
              refine ⟨hb.mpr fun k hk1 hk2 => ?_, hv.mpr ?_⟩
              · have := w k hk1 (by omega)
                change 0 ≤ lf k + s * ckF X Y j k at this
                rw [e3 k hk2] at this
                exact this
              · have := w (j + j) (by omega) (by omega)
                change 0 ≤ lf (j + j) + s * ckF X Y j (j + j) at this
                rw [e4, ← Int.mul_assoc, show j + j = 2 * j by omega] at this
                exact this
        by_cases cz : 0 ≤ lf (2 * j) + s * (X j : Int) * Y j
        · refine vs_ok 8 ?_
          rw [show ((gRes 19).drop 111).take 8 = [.iload 3, .aload 0, .getfield 1012, .iconst 2, .iload 1, .imul, .iaload, .ifCond .lt 121] from rfl]
          simp (disch := omega) only [vs_imul, vs_iconst, vs_ifCond, vs_getfield, vs_iaload, vs_aload0, vs_iload1, vs_iload3, vs_nil, gv_0, gv_1, gv_2, gv_3, pv_0, pv_1, va_rf_s, Nat.reduceDiv, Nat.reduceMod, Nat.reduceAdd, Nat.reduceMul, Int.reduceToNat, true_and, and_true, and_self, cP_eq, cP_ne, cP_lt, cP_ge, cP_gt, cP_le, eL_i, eL_l, eL_r, eL_n, Option.toList_none, Option.toList_some, List.nil_append, List.cons_append, kkI, llI, nnI, rrI, jjI, kkJ, llJ, nnJ, rrJ, iiJ, zIIs, zJJs, nEF, nET, and_false, false_and, jmin, jmax, catS_n, catS_i, catS_r, catS_l, Nat.reduceLeDiff, j1eq1, n21, jt0, jt1, Bool.false_eq_true, Classical.not_not, true_or, or_true, false_or, or_false, true_imp_iff, false_imp_iff, not_true_eq_false, not_false_eq_true, jif0, jif1, jifb, ltT, ltF, leT, leF, eqT, eqF, jlt, jle, jeq, jlt0, jle0, jeq0, jge0, jgt0, jinB, jnat, clt, cle, ceq, cgt, cge, lI_add, lI_sub, lI_mul, jadd, jsub, jmul, jneg, jtol, b010, b011, pv_2t, Int.toNat_natCast, Option.some.injEq, exists_eq_left', if_true, if_false, N2, ee, v2]
          refine vs_ok 2 ?_
          rw [show ((gRes 19).drop 119).take 2 = [.iconst 1, .goto 122] from rfl]
          simp (disch := omega) only [vs_iconst, vs_goto, vs_nil, gv_0, gv_1, gv_2, gv_3, pv_0, pv_1, va_rf_s, Nat.reduceDiv, Nat.reduceMod, Nat.reduceAdd, Nat.reduceMul, Int.reduceToNat, true_and, and_true, and_self, cP_eq, cP_ne, cP_lt, cP_ge, cP_gt, cP_le, eL_i, eL_l, eL_r, eL_n, Option.toList_none, Option.toList_some, List.nil_append, List.cons_append, kkI, llI, nnI, rrI, jjI, kkJ, llJ, nnJ, rrJ, iiJ, zIIs, zJJs, nEF, nET, and_false, false_and, jmin, jmax, catS_n, catS_i, catS_r, catS_l, Nat.reduceLeDiff, j1eq1, n21, jt0, jt1, Bool.false_eq_true, Classical.not_not, true_or, or_true, false_or, or_false, true_imp_iff, false_imp_iff, not_true_eq_false, not_false_eq_true, jif0, jif1, jifb, ltT, ltF, leT, leF, eqT, eqF, jlt, jle, jeq, jlt0, jle0, jeq0, jge0, jgt0, jinB, jnat, clt, cle, ceq, cgt, cge, lI_add, lI_sub, lI_mul, jadd, jsub, jmul, jneg, jtol, b010, b011, pv_2t, Int.toNat_natCast, Option.some.injEq, exists_eq_left', if_true, if_false]
          have := fin True ⟨fun _ => cz, fun _ => trivial⟩
          rw [if_pos trivial] at this
          exact this
        · refine vs_ok 8 ?_
          rw [show ((gRes 19).drop 111).take 8 = [.iload 3, .aload 0, .getfield 1012, .iconst 2, .iload 1, .imul, .iaload, .ifCond .lt 121] from rfl]
          simp (disch := omega) only [vs_imul, vs_iconst, vs_ifCond, vs_getfield, vs_iaload, vs_aload0, vs_iload1, vs_iload3, vs_nil, gv_0, gv_1, gv_2, gv_3, pv_0, pv_1, va_rf_s, Nat.reduceDiv, Nat.reduceMod, Nat.reduceAdd, Nat.reduceMul, Int.reduceToNat, true_and, and_true, and_self, cP_eq, cP_ne, cP_lt, cP_ge, cP_gt, cP_le, eL_i, eL_l, eL_r, eL_n, Option.toList_none, Option.toList_some, List.nil_append, List.cons_append, kkI, llI, nnI, rrI, jjI, kkJ, llJ, nnJ, rrJ, iiJ, zIIs, zJJs, nEF, nET, and_false, false_and, jmin, jmax, catS_n, catS_i, catS_r, catS_l, Nat.reduceLeDiff, j1eq1, n21, jt0, jt1, Bool.false_eq_true, Classical.not_not, true_or, or_true, false_or, or_false, true_imp_iff, false_imp_iff, not_true_eq_false, not_false_eq_true, jif0, jif1, jifb, ltT, ltF, leT, leF, eqT, eqF, jlt, jle, jeq, jlt0, jle0, jeq0, jge0, jgt0, jinB, jnat, clt, cle, ceq, cgt, cge, lI_add, lI_sub, lI_mul, jadd, jsub, jmul, jneg, jtol, b010, b011, pv_2t, Int.toNat_natCast, Option.some.injEq, exists_eq_left', if_true, if_false, N2, ee, v2]
          refine vs_ok 1 ?_
          rw [show ((gRes 19).drop 121).take 1 = [.iconst 0] from rfl]
          simp (disch := omega) only [vs_iconst, vs_nil, gv_0, gv_1, gv_2, gv_3, pv_0, pv_1, va_rf_s, Nat.reduceDiv, Nat.reduceMod, Nat.reduceAdd, Nat.reduceMul, Int.reduceToNat, true_and, and_true, and_self, cP_eq, cP_ne, cP_lt, cP_ge, cP_gt, cP_le, eL_i, eL_l, eL_r, eL_n, Option.toList_none, Option.toList_some, List.nil_append, List.cons_append, kkI, llI, nnI, rrI, jjI, kkJ, llJ, nnJ, rrJ, iiJ, zIIs, zJJs, nEF, nET, and_false, false_and, jmin, jmax, catS_n, catS_i, catS_r, catS_l, Nat.reduceLeDiff, j1eq1, n21, jt0, jt1, Bool.false_eq_true, Classical.not_not, true_or, or_true, false_or, or_false, true_imp_iff, false_imp_iff, not_true_eq_false, not_false_eq_true, jif0, jif1, jifb, ltT, ltF, leT, leF, eqT, eqF, jlt, jle, jeq, jlt0, jle0, jeq0, jge0, jgt0, jinB, jnat, clt, cle, ceq, cgt, cge, lI_add, lI_sub, lI_mul, jadd, jsub, jmul, jneg, jtol, b010, b011, pv_2t, Int.toNat_natCast, Option.some.injEq, exists_eq_left', if_true, if_false]
          have := fin False ⟨fun z => z.elim, fun z => cz z⟩
          rw [if_neg (fun z => z)] at this
          exact this
      | succ k ih =>
        intro j b _ g hk f hI hb
        have Ng := fsF (o0.fi f)
        have r := f.1.2.2.2.2.2.1
        have g6 : zI g (x + 6) = zI h (x + 6) := by rw [r _ (by omega)]; exact z6
        have g7 : zI g (x + 7) = zI h (x + 7) := by rw [r _ (by omega)]; exact z7
        have xj := hx j (by omega)
        have yj := hy j (by omega)
        have ej : (e : Int) + (j : Int) = ((e + j : Nat) : Int) := by omega
        have hI2 := hI (e + j) (by omega)
        rw [ck0, Int.mul_zero, Int.add_zero] at hI2
        have lb := (hl (e + j) (by omega)).1
        have mj := mb j (by omega)
        refine vs_ok 3 ?_
        rw [show ((gRes 19).drop 43).take 3 = [.iload 4, .iload 1, .if_icmp .ge 91] from rfl]
        simp (disch := omega) only [vs_if_icmp, vs_iload1, vs_iload4, vs_nil, gv_0, gv_1, gv_2, gv_3, pv_0, pv_1, va_rf_s, Nat.reduceDiv, Nat.reduceMod, Nat.reduceAdd, Nat.reduceMul, Int.reduceToNat, true_and, and_true, and_self, cP_eq, cP_ne, cP_lt, cP_ge, cP_gt, cP_le, eL_i, eL_l, eL_r, eL_n, Option.toList_none, Option.toList_some, List.nil_append, List.cons_append, kkI, llI, nnI, rrI, jjI, kkJ, llJ, nnJ, rrJ, iiJ, zIIs, zJJs, nEF, nET, and_false, false_and, jmin, jmax, catS_n, catS_i, catS_r, catS_l, Nat.reduceLeDiff, j1eq1, n21, jt0, jt1, Bool.false_eq_true, Classical.not_not, true_or, or_true, false_or, or_false, true_imp_iff, false_imp_iff, not_true_eq_false, not_false_eq_true, jif0, jif1, jifb, ltT, ltF, leT, leF, eqT, eqF, jlt, jle, jeq, jlt0, jle0, jeq0, jge0, jgt0, jinB, jnat, clt, cle, ceq, cgt, cge, lI_add, lI_sub, lI_mul, jadd, jsub, jmul, jneg, jtol, b010, b011, pv_2t, Int.toNat_natCast, Option.some.injEq, exists_eq_left', if_true, if_false]
        refine vs_ok 30 ?_
        rw [show ((gRes 19).drop 46).take 30 = [.aload 0, .getfield 1012, .iload 1, .iload 4, .iadd, .dup2, .iaload, .iload 2, .aload 0, .getfield 1022, .iload 1, .iaload, .aload 0, .getfield 1032, .iload 4, .iaload, .imul, .aload 0, .getfield 1032, .iload 1, .iaload, .aload 0, .getfield 1022, .iload 4, .iaload, .imul, .iadd, .imul, .iadd, .iastore] from rfl]
        simp (disch := omega) only [vs_iadd, vs_imul, vs_getfield, vs_iaload, vs_iastore, vs_dup2, vs_aload0, vs_iload1, vs_iload2, vs_iload4, vs_nil, gv_0, gv_1, gv_2, gv_3, pv_0, pv_1, va_rf_s, Nat.reduceDiv, Nat.reduceMod, Nat.reduceAdd, Nat.reduceMul, Int.reduceToNat, true_and, and_true, and_self, cP_eq, cP_ne, cP_lt, cP_ge, cP_gt, cP_le, eL_i, eL_l, eL_r, eL_n, Option.toList_none, Option.toList_some, List.nil_append, List.cons_append, kkI, llI, nnI, rrI, jjI, kkJ, llJ, nnJ, rrJ, iiJ, zIIs, zJJs, nEF, nET, and_false, false_and, jmin, jmax, catS_n, catS_i, catS_r, catS_l, Nat.reduceLeDiff, j1eq1, n21, jt0, jt1, Bool.false_eq_true, Classical.not_not, true_or, or_true, false_or, or_false, true_imp_iff, false_imp_iff, not_true_eq_false, not_false_eq_true, jif0, jif1, jifb, ltT, ltF, leT, leF, eqT, eqF, jlt, jle, jeq, jlt0, jle0, jeq0, jge0, jgt0, jinB, jnat, clt, cle, ceq, cgt, cge, lI_add, lI_sub, lI_mul, jadd, jsub, jmul, jneg, jtol, b010, b011, pv_2t, Int.toNat_natCast, Option.some.injEq, exists_eq_left', if_true, if_false, Ng, ej, hI2, g6, g7, xe.2, ye.2, xj.2, yj.2]
        have hfin : ∀ i, i < 122 → zI (zsI g (x + 5) (e + j) (iI (lf (e + j) + s * ((X e : Int) * Y j + (Y e : Int) * X j)))) (x + 5) i = iI (lf i + s * ckS X Y e (j + 1) i) := fun i hi => by
          rw [zI_s]
          by_cases c : i = e + j
          · rw [if_pos ⟨rfl, c⟩, c, ckh]
          · rw [if_neg (fun z => c z.2), ckl j i c]
            exact hI i hi
        have f2 : fi (fun q => q = x + 5) g0 (zsI g (x + 5) (e + j) (iI (lf (e + j) + s * ((X e : Int) * Y j + (Y e : Int) * X j)))) := f.I rfl
        have v2 : zI (zsI g (x + 5) (e + j) (iI (lf (e + j) + s * ((X e : Int) * Y j + (Y e : Int) * X j)))) (x + 5) (e + j) = iI (lf (e + j) + s * ((X e : Int) * Y j + (Y e : Int) * X j)) := by rw [zI_s, if_pos ⟨rfl, rfl⟩]
        generalize zsI g (x + 5) (e + j) (iI (lf (e + j) + s * ((X e : Int) * Y j + (Y e : Int) * X j))) = g2 at *
        have N2 := fsF (o0.fi f2)
        have nx : ∀ (v : Prop) [Decidable v], (v ↔ 0 ≤ lf (e + j) + s * ((X e : Int) * Y j + (Y e : Int) * X j)) → PW d 19 87 [some (.ref x), some (.int (iI e)), some (.int (iI s)), some (.int (iI (if b then 1 else 0))), some (.int (iI j))] [.int (iI (if v then 1 else 0)), .int (iI (if b then 1 else 0))] g2 Q := fun v _ hv => by
          refine vs_ok 4 ?_
          rw [show ((gRes 19).drop 87).take 4 = [.iand, .istore 3, .iinc 4 1, .goto 43] from rfl]
          simp (disch := omega) only [vs_goto, vs_istore3n, vs_istore3i, vs_istore3r, vs_istore3l, vs_iinc4n, vs_iinc4i, vs_iinc4r, vs_iinc4l, vs_nil, gv_0, gv_1, gv_2, gv_3, pv_0, pv_1, va_rf_s, vs_iand, Nat.reduceDiv, Nat.reduceMod, Nat.reduceAdd, Nat.reduceMul, Int.reduceToNat, true_and, and_true, and_self, cP_eq, cP_ne, cP_lt, cP_ge, cP_gt, cP_le, eL_i, eL_l, eL_r, eL_n, Option.toList_none, Option.toList_some, List.nil_append, List.cons_append, kkI, llI, nnI, rrI, jjI, kkJ, llJ, nnJ, rrJ, iiJ, zIIs, zJJs, nEF, nET, and_false, false_and, jmin, jmax, catS_n, catS_i, catS_r, catS_l, Nat.reduceLeDiff, j1eq1, n21, jt0, jt1, Bool.false_eq_true, Classical.not_not, true_or, or_true, false_or, or_false, true_imp_iff, false_imp_iff, not_true_eq_false, not_false_eq_true, jif0, jif1, jifb, ltT, ltF, leT, leF, eqT, eqF, jlt, jle, jeq, jlt0, jle0, jeq0, jge0, jgt0, jinB, jnat, clt, cle, ceq, cgt, cge, lI_add, lI_sub, lI_mul, jadd, jsub, jmul, jneg, jtol, b010, b011, pv_2t, Int.toNat_natCast, Option.some.injEq, exists_eq_left', if_true, if_false, b01]
          refine ih (j + 1) (b ∧ v) g2 (by omega) f2 hfin ⟨fun w k hk1 hk2 => ?_, fun w => ⟨hb.mpr fun k hk1 hk2 => ?_, hv.mpr ?_⟩⟩
          · show 0 ≤ lf k + s * ckS X Y e (j + 1) k
            by_cases c : k = e + j
            · rw [c, ckh]
              exact hv.mp w.2
            · rw [ckl j k c]
              exact hb.mp w.1 k hk1 (by omega)
          · have := w k hk1 (by omega)
            change 0 ≤ lf k + s * ckS X Y e (j + 1) k at this
            rw [ckl j k (by omega)] at this
            exact this
          · have := w (e + j) (by omega) (by omega)
            change 0 ≤ lf (e + j) + s * ckS X Y e (j + 1) (e + j) at this
            rw [ckh] at this
            exact this
        by_cases cz : 0 ≤ lf (e + j) + s * ((X e : Int) * Y j + (Y e : Int) * X j)
        · refine vs_ok 8 ?_
          rw [show ((gRes 19).drop 76).take 8 = [.iload 3, .aload 0, .getfield 1012, .iload 1, .iload 4, .iadd, .iaload, .ifCond .lt 86] from rfl]
          simp (disch := omega) only [vs_iadd, vs_ifCond, vs_getfield, vs_iaload, vs_aload0, vs_iload1, vs_iload3, vs_iload4, vs_nil, gv_0, gv_1, gv_2, gv_3, pv_0, pv_1, va_rf_s, Nat.reduceDiv, Nat.reduceMod, Nat.reduceAdd, Nat.reduceMul, Int.reduceToNat, true_and, and_true, and_self, cP_eq, cP_ne, cP_lt, cP_ge, cP_gt, cP_le, eL_i, eL_l, eL_r, eL_n, Option.toList_none, Option.toList_some, List.nil_append, List.cons_append, kkI, llI, nnI, rrI, jjI, kkJ, llJ, nnJ, rrJ, iiJ, zIIs, zJJs, nEF, nET, and_false, false_and, jmin, jmax, catS_n, catS_i, catS_r, catS_l, Nat.reduceLeDiff, j1eq1, n21, jt0, jt1, Bool.false_eq_true, Classical.not_not, true_or, or_true, false_or, or_false, true_imp_iff, false_imp_iff, not_true_eq_false, not_false_eq_true, jif0, jif1, jifb, ltT, ltF, leT, leF, eqT, eqF, jlt, jle, jeq, jlt0, jle0, jeq0, jge0, jgt0, jinB, jnat, clt, cle, ceq, cgt, cge, lI_add, lI_sub, lI_mul, jadd, jsub, jmul, jneg, jtol, b010, b011, pv_2t, Int.toNat_natCast, Option.some.injEq, exists_eq_left', if_true, if_false, N2, ej, v2]
          refine vs_ok 2 ?_
          rw [show ((gRes 19).drop 84).take 2 = [.iconst 1, .goto 87] from rfl]
          simp (disch := omega) only [vs_iconst, vs_goto, vs_nil, gv_0, gv_1, gv_2, gv_3, pv_0, pv_1, va_rf_s, Nat.reduceDiv, Nat.reduceMod, Nat.reduceAdd, Nat.reduceMul, Int.reduceToNat, true_and, and_true, and_self, cP_eq, cP_ne, cP_lt, cP_ge, cP_gt, cP_le, eL_i, eL_l, eL_r, eL_n, Option.toList_none, Option.toList_some, List.nil_append, List.cons_append, kkI, llI, nnI, rrI, jjI, kkJ, llJ, nnJ, rrJ, iiJ, zIIs, zJJs, nEF, nET, and_false, false_and, jmin, jmax, catS_n, catS_i, catS_r, catS_l, Nat.reduceLeDiff, j1eq1, n21, jt0, jt1, Bool.false_eq_true, Classical.not_not, true_or, or_true, false_or, or_false, true_imp_iff, false_imp_iff, not_true_eq_false, not_false_eq_true, jif0, jif1, jifb, ltT, ltF, leT, leF, eqT, eqF, jlt, jle, jeq, jlt0, jle0, jeq0, jge0, jgt0, jinB, jnat, clt, cle, ceq, cgt, cge, lI_add, lI_sub, lI_mul, jadd, jsub, jmul, jneg, jtol, b010, b011, pv_2t, Int.toNat_natCast, Option.some.injEq, exists_eq_left', if_true, if_false]
          have := nx True ⟨fun _ => cz, fun _ => trivial⟩
          rw [if_pos trivial] at this
          exact this
        · refine vs_ok 8 ?_
          rw [show ((gRes 19).drop 76).take 8 = [.iload 3, .aload 0, .getfield 1012, .iload 1, .iload 4, .iadd, .iaload, .ifCond .lt 86] from rfl]
          simp (disch := omega) only [vs_iadd, vs_ifCond, vs_getfield, vs_iaload, vs_aload0, vs_iload1, vs_iload3, vs_iload4, vs_nil, gv_0, gv_1, gv_2, gv_3, pv_0, pv_1, va_rf_s, Nat.reduceDiv, Nat.reduceMod, Nat.reduceAdd, Nat.reduceMul, Int.reduceToNat, true_and, and_true, and_self, cP_eq, cP_ne, cP_lt, cP_ge, cP_gt, cP_le, eL_i, eL_l, eL_r, eL_n, Option.toList_none, Option.toList_some, List.nil_append, List.cons_append, kkI, llI, nnI, rrI, jjI, kkJ, llJ, nnJ, rrJ, iiJ, zIIs, zJJs, nEF, nET, and_false, false_and, jmin, jmax, catS_n, catS_i, catS_r, catS_l, Nat.reduceLeDiff, j1eq1, n21, jt0, jt1, Bool.false_eq_true, Classical.not_not, true_or, or_true, false_or, or_false, true_imp_iff, false_imp_iff, not_true_eq_false, not_false_eq_true, jif0, jif1, jifb, ltT, ltF, leT, leF, eqT, eqF, jlt, jle, jeq, jlt0, jle0, jeq0, jge0, jgt0, jinB, jnat, clt, cle, ceq, cgt, cge, lI_add, lI_sub, lI_mul, jadd, jsub, jmul, jneg, jtol, b010, b011, pv_2t, Int.toNat_natCast, Option.some.injEq, exists_eq_left', if_true, if_false, N2, ej, v2]
          refine vs_ok 1 ?_
          rw [show ((gRes 19).drop 86).take 1 = [.iconst 0] from rfl]
          simp (disch := omega) only [vs_iconst, vs_nil, gv_0, gv_1, gv_2, gv_3, pv_0, pv_1, va_rf_s, Nat.reduceDiv, Nat.reduceMod, Nat.reduceAdd, Nat.reduceMul, Int.reduceToNat, true_and, and_true, and_self, cP_eq, cP_ne, cP_lt, cP_ge, cP_gt, cP_le, eL_i, eL_l, eL_r, eL_n, Option.toList_none, Option.toList_some, List.nil_append, List.cons_append, kkI, llI, nnI, rrI, jjI, kkJ, llJ, nnJ, rrJ, iiJ, zIIs, zJJs, nEF, nET, and_false, false_and, jmin, jmax, catS_n, catS_i, catS_r, catS_l, Nat.reduceLeDiff, j1eq1, n21, jt0, jt1, Bool.false_eq_true, Classical.not_not, true_or, or_true, false_or, or_false, true_imp_iff, false_imp_iff, not_true_eq_false, not_false_eq_true, jif0, jif1, jifb, ltT, ltF, leT, leF, eqT, eqF, jlt, jle, jeq, jlt0, jle0, jeq0, jge0, jgt0, jinB, jnat, clt, cle, ceq, cgt, cge, lI_add, lI_sub, lI_mul, jadd, jsub, jmul, jneg, jtol, b010, b011, pv_2t, Int.toNat_natCast, Option.some.injEq, exists_eq_left', if_true, if_false]
          have := nx False ⟨fun z => z.elim, fun z => cz z⟩
          rw [if_neg (fun z => z)] at this
          exact this
    have start : PW d 19 41 [some (.ref x), some (.int (iI e)), some (.int (iI s)), some (.int (iI 1)), none] [] g0 Q := by
      refine vs_ok 2 ?_
      rw [show ((gRes 19).drop 41).take 2 = [.iconst 0, .istore 4] from rfl]
      simp (disch := omega) only [vs_iconst, vs_istore4n, vs_istore4i, vs_istore4r, vs_istore4l, vs_nil, gv_0, gv_1, gv_2, gv_3, pv_0, pv_1, va_rf_s, Nat.reduceDiv, Nat.reduceMod, Nat.reduceAdd, Nat.reduceMul, Int.reduceToNat, true_and, and_true, and_self, cP_eq, cP_ne, cP_lt, cP_ge, cP_gt, cP_le, eL_i, eL_l, eL_r, eL_n, Option.toList_none, Option.toList_some, List.nil_append, List.cons_append, kkI, llI, nnI, rrI, jjI, kkJ, llJ, nnJ, rrJ, iiJ, zIIs, zJJs, nEF, nET, and_false, false_and, jmin, jmax, catS_n, catS_i, catS_r, catS_l, Nat.reduceLeDiff, j1eq1, n21, jt0, jt1, Bool.false_eq_true, Classical.not_not, true_or, or_true, false_or, or_false, true_imp_iff, false_imp_iff, not_true_eq_false, not_false_eq_true, jif0, jif1, jifb, ltT, ltF, leT, leF, eqT, eqF, jlt, jle, jeq, jlt0, jle0, jeq0, jge0, jgt0, jinB, jnat, clt, cle, ceq, cgt, cge, lI_add, lI_sub, lI_mul, jadd, jsub, jmul, jneg, jtol, b010, b011, pv_2t, Int.toNat_natCast, Option.some.injEq, exists_eq_left', if_true, if_false]
      have := lp e 0 True g0 (by omega) fi.rf (fun i hi => by
        have : ckS X Y e 0 i = 0 := by unfold ckS; rw [if_neg (by omega)]
        rw [this, Int.mul_zero, Int.add_zero, z5]
        exact (hl i hi).2) ⟨fun _ k h1 h2 => absurd h2 (by omega), fun _ => trivial⟩
      rw [if_pos trivial] at this
      exact this
    by_cases cx : X e = 0
    · refine vs_ok 10 ?_
      rw [show ((gRes 19).drop 31).take 10 = [.aload 0, .getfield 1022, .iload 1, .iaload, .ifCond .ne 41, .aload 0, .getfield 1032, .iload 1, .iaload, .ifCond .eq 124] from rfl]
      simp (disch := omega) only [vs_ifCond, vs_getfield, vs_iaload, vs_aload0, vs_iload1, vs_nil, gv_0, gv_1, gv_2, gv_3, pv_0, pv_1, va_rf_s, Nat.reduceDiv, Nat.reduceMod, Nat.reduceAdd, Nat.reduceMul, Int.reduceToNat, true_and, and_true, and_self, cP_eq, cP_ne, cP_lt, cP_ge, cP_gt, cP_le, eL_i, eL_l, eL_r, eL_n, Option.toList_none, Option.toList_some, List.nil_append, List.cons_append, kkI, llI, nnI, rrI, jjI, kkJ, llJ, nnJ, rrJ, iiJ, zIIs, zJJs, nEF, nET, and_false, false_and, jmin, jmax, catS_n, catS_i, catS_r, catS_l, Nat.reduceLeDiff, j1eq1, n21, jt0, jt1, Bool.false_eq_true, Classical.not_not, true_or, or_true, false_or, or_false, true_imp_iff, false_imp_iff, not_true_eq_false, not_false_eq_true, jif0, jif1, jifb, ltT, ltF, leT, leF, eqT, eqF, jlt, jle, jeq, jlt0, jle0, jeq0, jge0, jgt0, jinB, jnat, clt, cle, ceq, cgt, cge, lI_add, lI_sub, lI_mul, jadd, jsub, jmul, jneg, jtol, b010, b011, pv_2t, Int.toNat_natCast, Option.some.injEq, exists_eq_left', if_true, if_false, N0, z6, z7, xe.2, ye.2]
      exact start
    · refine vs_ok 5 ?_
      rw [show ((gRes 19).drop 31).take 5 = [.aload 0, .getfield 1022, .iload 1, .iaload, .ifCond .ne 41] from rfl]
      simp (disch := omega) only [vs_ifCond, vs_getfield, vs_iaload, vs_aload0, vs_iload1, vs_nil, gv_0, gv_1, gv_2, gv_3, pv_0, pv_1, va_rf_s, Nat.reduceDiv, Nat.reduceMod, Nat.reduceAdd, Nat.reduceMul, Int.reduceToNat, true_and, and_true, and_self, cP_eq, cP_ne, cP_lt, cP_ge, cP_gt, cP_le, eL_i, eL_l, eL_r, eL_n, Option.toList_none, Option.toList_some, List.nil_append, List.cons_append, kkI, llI, nnI, rrI, jjI, kkJ, llJ, nnJ, rrJ, iiJ, zIIs, zJJs, nEF, nET, and_false, false_and, jmin, jmax, catS_n, catS_i, catS_r, catS_l, Nat.reduceLeDiff, j1eq1, n21, jt0, jt1, Bool.false_eq_true, Classical.not_not, true_or, or_true, false_or, or_false, true_imp_iff, false_imp_iff, not_true_eq_false, not_false_eq_true, jif0, jif1, jifb, ltT, ltF, leT, leF, eqT, eqF, jlt, jle, jeq, jlt0, jle0, jeq0, jge0, jgt0, jinB, jnat, clt, cle, ceq, cgt, cge, lI_add, lI_sub, lI_mul, jadd, jsub, jmul, jneg, jtol, b010, b011, pv_2t, Int.toNat_natCast, Option.some.injEq, exists_eq_left', if_true, if_false, N0, z6, z7, xe.2, ye.2]
      exact start
