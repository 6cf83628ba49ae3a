/-! WordSearch: the state, isTold, add -/
abbrev wsL : List (Nat × Nat) := [(14, 12), (14, 12), (14, 4), (14, 16), (14, 4)]
theorem wsF {h : Hp} {w : Nat} (ho : objA h w 10 wsL) : (zK h w = 10 ∧ w < zN h) ∧ (zR h w 0 = some (w + 1) ∧ zK h (w + 1) = 14 ∧ w + 1 < zN h ∧ zL h (w + 1) = 12) ∧ (zR h w 1 = some (w + 2) ∧ zK h (w + 2) = 14 ∧ w + 2 < zN h ∧ zL h (w + 2) = 12) ∧ (zR h w 2 = some (w + 3) ∧ zK h (w + 3) = 14 ∧ w + 3 < zN h ∧ zL h (w + 3) = 4) ∧ (zR h w 3 = some (w + 4) ∧ zK h (w + 4) = 14 ∧ w + 4 < zN h ∧ zL h (w + 4) = 16) ∧ (zR h w 4 = some (w + 5) ∧ zK h (w + 5) = 14 ∧ w + 5 < zN h ∧ zL h (w + 5) = 4) :=
  ⟨⟨ho.1, by have := ho.2.1; omega⟩, ho.e 0 (14, 12) rfl, ho.e 1 (14, 12) rfl, ho.e 2 (14, 4) rfl, ho.e 3 (14, 16) rfl, ho.e 4 (14, 4) rfl⟩
/-- how often c is in r -/
def cn (c : Nat) : List Nat → Nat
  | [] => 0
  | e :: r => cn c r + (if e = c then 1 else 0)
theorem cn_le (c : Nat) : ∀ r, cn c r ≤ r.length
  | [] => Nat.le_refl _
  | e :: r => by
    have := cn_le c r
    show cn c r + _ ≤ r.length + 1
    split <;> omega
/-- pairs of a FACE of a above one of b; r: letters, the latest (greatest) first -/
def wn (a b : Nat) : List Nat → Nat
  | [] => 0
  | c :: r => wn a b r + (if a = c ∧ b ≠ c then cn b r else 0)
/-- the product of u over all below k but c -/
def prN (u : Nat → Nat) (c : Nat) : Nat → Nat
  | 0 => 1
  | k + 1 => if k = c then prN u c k else prN u c k * u k
/-- in how many rows of the n dice a is the greatest -/
def gr (n a : Nat) : List Nat → Nat
  | [] => 0
  | c :: r => gr n a r + (if a = c then prN (fun e => cn e r) c n else 0)
theorem wn_le (a b : Nat) : ∀ r, wn a b r ≤ r.length * r.length
  | [] => Nat.le_refl _
  | c :: r => by
    have := wn_le a b r
    have := cn_le b r
    show wn a b r + _ ≤ (r.length + 1) * (r.length + 1)
    rw [Nat.mul_add, Nat.add_mul]
    split <;> omega
theorem prN_le {u : Nat → Nat} {c b : Nat} (hb : 1 ≤ b) (hu : ∀ i, u i ≤ b) : ∀ k, prN u c k ≤ b ^ k
  | 0 => Nat.le_refl _
  | k + 1 => by
    unfold prN
    rw [Nat.pow_succ]
    have := prN_le (c := c) hb hu k
    split
    · exact Nat.le_trans this (Nat.le_mul_of_pos_right _ hb)
    · exact Nat.mul_le_mul this (hu k)
theorem gr_le {n : Nat} (hn : n ≤ 4) (a : Nat) : ∀ r : List Nat, r.length ≤ 12 → gr n a r ≤ r.length * 20736
  | [], _ => Nat.le_refl _
  | c :: r, h => by
    have h' : r.length ≤ 11 := by
      have : (c :: r).length = r.length + 1 := rfl
      omega
    have := gr_le hn a r (by omega)
    have h2 := prN_le (u := fun e => cn e r) (c := c) (b := 12) (by omega) (fun i => Nat.le_trans (cn_le i r) (by omega)) n
    have h3 : 12 ^ n ≤ 12 ^ 4 := Nat.pow_le_pow_right (by omega) hn
    have h5 : prN (fun e => cn e r) c n ≤ 20736 := Nat.le_trans h2 (Nat.le_trans h3 (Nat.le_of_ble_eq_true rfl))
    clear h2 h3
    show gr n a r + _ ≤ (r.length + 1) * 20736
    rw [Nat.add_mul, Nat.one_mul]
    generalize r.length * 20736 = z at *
    generalize (20736 : Nat) = y at *
    split <;> omega
/-- WordSearch's own state: n dice of f FACES, bits asked fb, beatings wanted wt; r has been laid, the latest first -/
def wsC (h : Hp) (x n f fb wt : Nat) (r : List Nat) : Prop := objA h x 10 wsL ∧ zR h x 5 = some (x + 6) ∧ objA h (x + 6) 9 wcL ∧ zI h x 7 = iI n ∧ zI h x 8 = iI f ∧ zI h x 9 = iI fb ∧ zI h x 10 = iI wt ∧ (∀ c, c < 4 → zI h (x + 3) c = iI (cn c r)) ∧ (∀ a b, a < n → b < n → zI h (x + 4) (4 * a + b) = iI (wn a b r)) ∧ ∀ a, a < n → zI h (x + 5) a = iI (gr n a r)
theorem wsC.fi {S : Nat → Prop} {h g : Hp} {x n f fb wt : Nat} {r : List Nat} (hw : wsC h x n f fb wt r) (hf : fi S h g) (h0 : ¬ S x) (h3 : ¬ S (x + 3)) (h4 : ¬ S (x + 4)) (h5 : ¬ S (x + 5)) : wsC g x n f fb wt r := by
  obtain ⟨a1, a2, a3, a4, a5, a6, a7, a8, a9, a10⟩ := hw
  have q := hf.1.2.2.2.2.2.1
  rw [wsC, q _ h0, q _ h3, q _ h4, q _ h5, hf.2]
  exact ⟨a1.fi hf, a2, a3.fi hf, a4, a5, a6, a7, a8, a9, a10⟩
theorem t_isTold {d : Nat} {h : Hp} {p a b : Nat} {Q : Nat → Option Value → Hp → Prop} (hp : p < 65536) (ha : a < 4) (hb : b < 4) (hq : Q 0 (some (.int (iI (if p.testBit (4 * a + b) = true then 1 else 0)))) h) : PR d m_WordSearch_isTold [.int (iI p), .int (iI a), .int (iI b)] h Q := by
  show PW d 128 0 [some (.int (iI p)), some (.int (iI a)), some (.int (iI b))] [] h Q
  have e1 : (a : Int) * 4 + (b : Int) = ((4 * a + b : Nat) : Int) := by omega
  by_cases c : p.testBit (4 * a + b) = true
  · rw [if_pos c] at hq
    refine vs_ok 11 ?_
    rw [show ((gRes 128).drop 0).take 11 = [.iload 0, .iload 1, .iconst 4, .imul, .iload 2, .iadd, .ishr, .iconst 1, .iand, .iconst 1, .if_icmp .ne 13] from rfl]
    simp (disch := omega) only [vs_iadd, vs_imul, vs_iconst, vs_if_icmp, vs_iload0, vs_iload1, vs_iload2, vs_nil, gv_0, gv_1, gv_2, gv_3, pv_0, pv_1, va_rf_s, vs_iand, vs_ishr, Nat.reduceDiv, Nat.reduceMod, Nat.reduceAdd, Nat.reduceMul, Int.reduceToNat, true_and, and_true, and_self, cP_eq, cP_ne, cP_lt, cP_ge, cP_gt, cP_le, eL_i, eL_l, eL_r, eL_n, Option.toList_none, Option.toList_some, List.nil_append, List.cons_append, kkI, llI, nnI, rrI, jjI, kkJ, llJ, nnJ, rrJ, iiJ, zIIs, zJJs, nEF, nET, and_false, false_and, jmin, jmax, catS_n, catS_i, catS_r, catS_l, Nat.reduceLeDiff, j1eq1, n21, jt0, jt1, Bool.false_eq_true, Classical.not_not, true_or, or_true, false_or, or_false, true_imp_iff, false_imp_iff, not_true_eq_false, not_false_eq_true, jif0, jif1, jifb, ltT, ltF, leT, leF, eqT, eqF, jlt, jle, jeq, jlt0, jle0, jeq0, jge0, jgt0, jinB, jnat, clt, cle, ceq, cgt, cge, lI_add, lI_sub, lI_mul, jadd, jsub, jmul, jneg, jtol, b010, b011, pv_2t, Int.toNat_natCast, Option.some.injEq, exists_eq_left', if_true, if_false, e1, jbit, c]
    refine vs_ok 2 ?_
    rw [show ((gRes 128).drop 11).take 2 = [.iconst 1, .goto 14] from rfl]
    simp (disch := omega) only [vs_iconst, vs_goto, vs_nil, gv_0, gv_1, gv_2, gv_3, pv_0, pv_1, va_rf_s, Nat.reduceDiv, Nat.reduceMod, Nat.reduceAdd, Nat.reduceMul, Int.reduceToNat, true_and, and_true, and_self, cP_eq, cP_ne, cP_lt, cP_ge, cP_gt, cP_le, eL_i, eL_l, eL_r, eL_n, Option.toList_none, Option.toList_some, List.nil_append, List.cons_append, kkI, llI, nnI, rrI, jjI, kkJ, llJ, nnJ, rrJ, iiJ, zIIs, zJJs, nEF, nET, and_false, false_and, jmin, jmax, catS_n, catS_i, catS_r, catS_l, Nat.reduceLeDiff, j1eq1, n21, jt0, jt1, Bool.false_eq_true, Classical.not_not, true_or, or_true, false_or, or_false, true_imp_iff, false_imp_iff, not_true_eq_false, not_false_eq_true, jif0, jif1, jifb, ltT, ltF, leT, leF, eqT, eqF, jlt, jle, jeq, jlt0, jle0, jeq0, jge0, jgt0, jinB, jnat, clt, cle, ceq, cgt, cge, lI_add, lI_sub, lI_mul, jadd, jsub, jmul, jneg, jtol, b010, b011, pv_2t, Int.toNat_natCast, Option.some.injEq, exists_eq_left', if_true, if_false]
    refine vs_ok 1 ?_
    rw [show ((gRes 128).drop 14).take 1 = [.ireturn] from rfl]
    simp (disch := omega) only [vs_ireturn, vs_nil, gv_0, gv_1, gv_2, gv_3, pv_0, pv_1, va_rf_s, Nat.reduceDiv, Nat.reduceMod, Nat.reduceAdd, Nat.reduceMul, Int.reduceToNat, true_and, and_true, and_self, cP_eq, cP_ne, cP_lt, cP_ge, cP_gt, cP_le, eL_i, eL_l, eL_r, eL_n, Option.toList_none, Option.toList_some, List.nil_append, List.cons_append, kkI, llI, nnI, rrI, jjI, kkJ, llJ, nnJ, rrJ, iiJ, zIIs, zJJs, nEF, nET, and_false, false_and, jmin, jmax, catS_n, catS_i, catS_r, catS_l, Nat.reduceLeDiff, j1eq1, n21, jt0, jt1, Bool.false_eq_true, Classical.not_not, true_or, or_true, false_or, or_false, true_imp_iff, false_imp_iff, not_true_eq_false, not_false_eq_true, jif0, jif1, jifb, ltT, ltF, leT, leF, eqT, eqF, jlt, jle, jeq, jlt0, jle0, jeq0, jge0, jgt0, jinB, jnat, clt, cle, ceq, cgt, cge, lI_add, lI_sub, lI_mul, jadd, jsub, jmul, jneg, jtol, b010, b011, pv_2t, Int.toNat_natCast, Option.some.injEq, exists_eq_left', if_true, if_false, show gRc 128 = 2 from rfl]
    exact hq
  · rw [if_neg c] at hq
    refine vs_ok 11 ?_
    rw [show ((gRes 128).drop 0).take 11 = [.iload 0, .iload 1, .iconst 4, .imul, .iload 2, .iadd, .ishr, .iconst 1, .iand, .iconst 1, .if_icmp .ne 13] from rfl]
    simp (disch := omega) only [vs_iadd, vs_imul, vs_iconst, vs_if_icmp, vs_iload0, vs_iload1, vs_iload2, vs_nil, gv_0, gv_1, gv_2, gv_3, pv_0, pv_1, va_rf_s, vs_iand, vs_ishr, Nat.reduceDiv, Nat.reduceMod, Nat.reduceAdd, Nat.reduceMul, Int.reduceToNat, true_and, and_true, and_self, cP_eq, cP_ne, cP_lt, cP_ge, cP_gt, cP_le, eL_i, eL_l, eL_r, eL_n, Option.toList_none, Option.toList_some, List.nil_append, List.cons_append, kkI, llI, nnI, rrI, jjI, kkJ, llJ, nnJ, rrJ, iiJ, zIIs, zJJs, nEF, nET, and_false, false_and, jmin, jmax, catS_n, catS_i, catS_r, catS_l, Nat.reduceLeDiff, j1eq1, n21, jt0, jt1, Bool.false_eq_true, Classical.not_not, true_or, or_true, false_or, or_false, true_imp_iff, false_imp_iff, not_true_eq_false, not_false_eq_true, jif0, jif1, jifb, ltT, ltF, leT, leF, eqT, eqF, jlt, jle, jeq, jlt0, jle0, jeq0, jge0, jgt0, jinB, jnat, clt, cle, ceq, cgt, cge, lI_add, lI_sub, lI_mul, jadd, jsub, jmul, jneg, jtol, b010, b011, pv_2t, Int.toNat_natCast, Option.some.injEq, exists_eq_left', if_true, if_false, e1, jbit, c]
    refine vs_ok 2 ?_
    rw [show ((gRes 128).drop 13).take 2 = [.iconst 0, .ireturn] from rfl]
    simp (disch := omega) only [vs_iconst, vs_ireturn, vs_nil, gv_0, gv_1, gv_2, gv_3, pv_0, pv_1, va_rf_s, Nat.reduceDiv, Nat.reduceMod, Nat.reduceAdd, Nat.reduceMul, Int.reduceToNat, true_and, and_true, and_self, cP_eq, cP_ne, cP_lt, cP_ge, cP_gt, cP_le, eL_i, eL_l, eL_r, eL_n, Option.toList_none, Option.toList_some, List.nil_append, List.cons_append, kkI, llI, nnI, rrI, jjI, kkJ, llJ, nnJ, rrJ, iiJ, zIIs, zJJs, nEF, nET, and_false, false_and, jmin, jmax, catS_n, catS_i, catS_r, catS_l, Nat.reduceLeDiff, j1eq1, n21, jt0, jt1, Bool.false_eq_true, Classical.not_not, true_or, or_true, false_or, or_false, true_imp_iff, false_imp_iff, not_true_eq_false, not_false_eq_true, jif0, jif1, jifb, ltT, ltF, leT, leF, eqT, eqF, jlt, jle, jeq, jlt0, jle0, jeq0, jge0, jgt0, jinB, jnat, clt, cle, ceq, cgt, cge, lI_add, lI_sub, lI_mul, jadd, jsub, jmul, jneg, jtol, b010, b011, pv_2t, Int.toNat_natCast, Option.some.injEq, exists_eq_left', if_true, if_false, show gRc 128 = 2 from rfl]
    exact hq
/-- add, from its loop on: s is 1 or -1, r has been laid without c -/
theorem t_addL {d : Nat} {h : Hp} {x n f fb wt c : Nat} {s : Int} {r : List Nat} {W G : Nat → Int} {o3 o4 : Option Value} {Q : Nat → Option Value → Hp → Prop} (ho : objA h x 10 wsL) (h7 : zI h x 7 = iI n) (hn : n ≤ 4) (hc : c < n) (hu : ∀ c, c < 4 → zI h (x + 3) c = iI (cn c r)) (hW : ∀ i, i < 16 → zI h (x + 4) i = iI (W i)) (hG : ∀ i, i < 4 → zI h (x + 5) i = iI (G i))
    (K : ∀ g o4, fi (fun q => q = x + 4 ∨ q = x + 5) h g → (∀ i, i < 16 → zI g (x + 4) i = iI (if i / 4 = c ∧ i % 4 < n ∧ i % 4 ≠ c then W i + s * (cn (i % 4) r : Int) else W i)) → (∀ i, i < 4 → zI g (x + 5) i = iI (if i = c then G i + s * (prN (fun e => cn e r) c n : Int) else G i)) → PW (d + 1) 131 57 [some (.ref x), some (.int (iI c)), some (.int (iI s)), some (.int (iI (prN (fun e => cn e r) c n))), o4] [] g Q) : PW (d + 1) 131 10 [some (.ref x), some (.int (iI c)), some (.int (iI s)), o3, o4] [] h Q := by
  have lp : ∀ (k e : Nat) (g : Hp), k + e = n → fi (fun q => q = x + 4) h g → (∀ i, i < 16 → zI g (x + 4) i = iI (if i / 4 = c ∧ i % 4 < e ∧ i % 4 ≠ c then W i + s * (cn (i % 4) r : Int) else W i)) → PW (d + 1) 131 14 [some (.ref x), some (.int (iI c)), some (.int (iI s)), some (.int (iI (prN (fun e => cn e r) c e))), some (.int (iI e))] [] g Q := by
    intro k
    induction k with
    | zero =>
      intro e g hk hf hI
      have z : e = n := by omega
      subst z
      have go := ho.fi hf
      have q := hf.1.2.2.2.2.2.1
      have g7 : zI g x 7 = iI e := by rw [q _ (by omega)]; exact h7
      have gG : zI g (x + 5) = zI h (x + 5) := q _ (by omega)
      refine vs_ok 4 ?_
      rw [show ((gRes 131).drop 14).take 4 = [.iload 4, .aload 0, .getfield 10070, .if_icmp .ge 47] from rfl]
      simp (disch := omega) only [vs_if_icmp, vs_getfield, vs_aload0, vs_iload4, vs_nil, gv_0, gv_1, gv_2, gv_3, pv_0, pv_1, va_rf_s, Nat.reduceDiv, Nat.reduceMod, Nat.reduceAdd, Nat.reduceMul, Int.reduceToNat, true_and, and_true, and_self, cP_eq, cP_ne, cP_lt, cP_ge, cP_gt, cP_le, eL_i, eL_l, eL_r, eL_n, Option.toList_none, Option.toList_some, List.nil_append, List.cons_append, kkI, llI, nnI, rrI, jjI, kkJ, llJ, nnJ, rrJ, iiJ, zIIs, zJJs, nEF, nET, and_false, false_and, jmin, jmax, catS_n, catS_i, catS_r, catS_l, Nat.reduceLeDiff, j1eq1, n21, jt0, jt1, Bool.false_eq_true, Classical.not_not, true_or, or_true, false_or, or_false, true_imp_iff, false_imp_iff, not_true_eq_false, not_false_eq_true, jif0, jif1, jifb, ltT, ltF, leT, leF, eqT, eqF, jlt, jle, jeq, jlt0, jle0, jeq0, jge0, jgt0, jinB, jnat, clt, cle, ceq, cgt, cge, lI_add, lI_sub, lI_mul, jadd, jsub, jmul, jneg, jtol, b010, b011, pv_2t, Int.toNat_natCast, Option.some.injEq, exists_eq_left', if_true, if_false, wsF go, g7]
      refine vs_ok 10 ?_
      rw [show ((gRes 131).drop 47).take 10 = [.aload 0, .getfield 10042, .iload 1, .dup2, .iaload, .iload 2, .iload 3, .imul, .iadd, .iastore] from rfl]
      simp (disch := omega) only [vs_iadd, vs_imul, vs_getfield, vs_iaload, vs_iastore, vs_dup2, vs_aload0, vs_iload1, vs_iload2, vs_iload3, vs_nil, gv_0, gv_1, gv_2, gv_3, pv_0, pv_1, va_rf_s, Nat.reduceDiv, Nat.reduceMod, Nat.reduceAdd, Nat.reduceMul, Int.reduceToNat, true_and, and_true, and_self, cP_eq, cP_ne, cP_lt, cP_ge, cP_gt, cP_le, eL_i, eL_l, eL_r, eL_n, Option.toList_none, Option.toList_some, List.nil_append, List.cons_append, kkI, llI, nnI, rrI, jjI, kkJ, llJ, nnJ, rrJ, iiJ, zIIs, zJJs, nEF, nET, and_false, false_and, jmin, jmax, catS_n, catS_i, catS_r, catS_l, Nat.reduceLeDiff, j1eq1, n21, jt0, jt1, Bool.false_eq_true, Classical.not_not, true_or, or_true, false_or, or_false, true_imp_iff, false_imp_iff, not_true_eq_false, not_false_eq_true, jif0, jif1, jifb, ltT, ltF, leT, leF, eqT, eqF, jlt, jle, jeq, jlt0, jle0, jeq0, jge0, jgt0, jinB, jnat, clt, cle, ceq, cgt, cge, lI_add, lI_sub, lI_mul, jadd, jsub, jmul, jneg, jtol, b010, b011, pv_2t, Int.toNat_natCast, Option.some.injEq, exists_eq_left', if_true, if_false, wsF go, gG, hG c (by omega)]
      refine K _ _ ((hf.wk fun q z => Or.inl z).I (Or.inr rfl)) (fun i hi => ?_) fun i hi => ?_
      · rw [zI_s, if_neg (by omega)]
        exact hI i hi
      · rw [zI_s]
        by_cases y : i = c
        · rw [if_pos ⟨rfl, y⟩, if_pos y, y]
        · rw [if_neg (fun z => y z.2), if_neg y, gG]
          exact hG i hi
    | succ k ih =>
      intro e g hk hf hI
      have go := ho.fi hf
      have q := hf.1.2.2.2.2.2.1
      have g7 : zI g x 7 = iI n := by rw [q _ (by omega)]; exact h7
      have gU : zI g (x + 3) = zI h (x + 3) := q _ (by omega)
      have ef : prN (fun e => cn e r) c (e + 1) = if e = c then prN (fun e => cn e r) c e else prN (fun e => cn e r) c e * cn e r := rfl
      by_cases y : e = c
      · rw [if_pos y] at ef
        refine vs_ok 33 ?_
        rw [show ((gRes 131).drop 14).take 33 = [.iload 4, .aload 0, .getfield 10070, .if_icmp .ge 47, .iload 4, .iload 1, .if_icmp .eq 45, .aload 0, .getfield 10032, .iload 1, .iconst 4, .imul, .iload 4, .iadd, .dup2, .iaload, .iload 2, .aload 0, .getfield 10022, .iload 4, .iaload, .imul, .iadd, .iastore, .iload 3, .aload 0, .getfield 10022, .iload 4, .iaload, .imul, .istore 3, .iinc 4 1, .goto 14] from rfl]
        simp (disch := omega) only [vs_iadd, vs_imul, vs_iconst, vs_goto, vs_if_icmp, vs_getfield, vs_iaload, vs_iastore, vs_dup2, vs_aload0, vs_iload1, vs_iload2, vs_iload3, vs_istore3n, vs_istore3i, vs_istore3r, vs_istore3l, vs_iload4, vs_iinc4n, vs_iinc4i, vs_iinc4r, vs_iinc4l, vs_nil, gv_0, gv_1, gv_2, gv_3, pv_0, pv_1, va_rf_s, Nat.reduceDiv, Nat.reduceMod, Nat.reduceAdd, Nat.reduceMul, Int.reduceToNat, true_and, and_true, and_self, cP_eq, cP_ne, cP_lt, cP_ge, cP_gt, cP_le, eL_i, eL_l, eL_r, eL_n, Option.toList_none, Option.toList_some, List.nil_append, List.cons_append, kkI, llI, nnI, rrI, jjI, kkJ, llJ, nnJ, rrJ, iiJ, zIIs, zJJs, nEF, nET, and_false, false_and, jmin, jmax, catS_n, catS_i, catS_r, catS_l, Nat.reduceLeDiff, j1eq1, n21, jt0, jt1, Bool.false_eq_true, Classical.not_not, true_or, or_true, false_or, or_false, true_imp_iff, false_imp_iff, not_true_eq_false, not_false_eq_true, jif0, jif1, jifb, ltT, ltF, leT, leF, eqT, eqF, jlt, jle, jeq, jlt0, jle0, jeq0, jge0, jgt0, jinB, jnat, clt, cle, ceq, cgt, cge, lI_add, lI_sub, lI_mul, jadd, jsub, jmul, jneg, jtol, b010, b011, pv_2t, Int.toNat_natCast, Option.some.injEq, exists_eq_left', if_true, if_false, wsF go, g7]
        refine vs_ok 2 ?_
        rw [show ((gRes 131).drop 45).take 2 = [.iinc 4 1, .goto 14] from rfl]
        simp (disch := omega) only [vs_goto, vs_iinc4n, vs_iinc4i, vs_iinc4r, vs_iinc4l, vs_nil, gv_0, gv_1, gv_2, gv_3, pv_0, pv_1, va_rf_s, Nat.reduceDiv, Nat.reduceMod, Nat.reduceAdd, Nat.reduceMul, Int.reduceToNat, true_and, and_true, and_self, cP_eq, cP_ne, cP_lt, cP_ge, cP_gt, cP_le, eL_i, eL_l, eL_r, eL_n, Option.toList_none, Option.toList_some, List.nil_append, List.cons_append, kkI, llI, nnI, rrI, jjI, kkJ, llJ, nnJ, rrJ, iiJ, zIIs, zJJs, nEF, nET, and_false, false_and, jmin, jmax, catS_n, catS_i, catS_r, catS_l, Nat.reduceLeDiff, j1eq1, n21, jt0, jt1, Bool.false_eq_true, Classical.not_not, true_or, or_true, false_or, or_false, true_imp_iff, false_imp_iff, not_true_eq_false, not_false_eq_true, jif0, jif1, jifb, ltT, ltF, leT, leF, eqT, eqF, jlt, jle, jeq, jlt0, jle0, jeq0, jge0, jgt0, jinB, jnat, clt, cle, ceq, cgt, cge, lI_add, lI_sub, lI_mul, jadd, jsub, jmul, jneg, jtol, b010, b011, pv_2t, Int.toNat_natCast, Option.some.injEq, exists_eq_left', if_true, if_false]
        have := ih (e + 1) g (by omega) hf fun i hi => ?_
        · rw [ef] at this
          exact this
        · rw [hI i hi]
          by_cases z : i / 4 = c ∧ i % 4 < e ∧ i % 4 ≠ c
          · rw [if_pos z, if_pos ⟨z.1, by omega, z.2.2⟩]
          · rw [if_neg z, if_neg (by omega)]
      · rw [if_neg y] at ef
        have e1 : (c : Int) * 4 + (e : Int) = ((4 * c + e : Nat) : Int) := by omega
        have hx := hI (4 * c + e) (by omega)
        rw [if_neg (by omega)] at hx
        refine vs_ok 33 ?_
        rw [show ((gRes 131).drop 14).take 33 = [.iload 4, .aload 0, .getfield 10070, .if_icmp .ge 47, .iload 4, .iload 1, .if_icmp .eq 45, .aload 0, .getfield 10032, .iload 1, .iconst 4, .imul, .iload 4, .iadd, .dup2, .iaload, .iload 2, .aload 0, .getfield 10022, .iload 4, .iaload, .imul, .iadd, .iastore, .iload 3, .aload 0, .getfield 10022, .iload 4, .iaload, .imul, .istore 3, .iinc 4 1, .goto 14] from rfl]
        simp (disch := omega) only [vs_iadd, vs_imul, vs_iconst, vs_goto, vs_if_icmp, vs_getfield, vs_iaload, vs_iastore, vs_dup2, vs_aload0, vs_iload1, vs_iload2, vs_iload3, vs_istore3n, vs_istore3i, vs_istore3r, vs_istore3l, vs_iload4, vs_iinc4n, vs_iinc4i, vs_iinc4r, vs_iinc4l, vs_nil, gv_0, gv_1, gv_2, gv_3, pv_0, pv_1, va_rf_s, Nat.reduceDiv, Nat.reduceMod, Nat.reduceAdd, Nat.reduceMul, Int.reduceToNat, true_and, and_true, and_self, cP_eq, cP_ne, cP_lt, cP_ge, cP_gt, cP_le, eL_i, eL_l, eL_r, eL_n, Option.toList_none, Option.toList_some, List.nil_append, List.cons_append, kkI, llI, nnI, rrI, jjI, kkJ, llJ, nnJ, rrJ, iiJ, zIIs, zJJs, nEF, nET, and_false, false_and, jmin, jmax, catS_n, catS_i, catS_r, catS_l, Nat.reduceLeDiff, j1eq1, n21, jt0, jt1, Bool.false_eq_true, Classical.not_not, true_or, or_true, false_or, or_false, true_imp_iff, false_imp_iff, not_true_eq_false, not_false_eq_true, jif0, jif1, jifb, ltT, ltF, leT, leF, eqT, eqF, jlt, jle, jeq, jlt0, jle0, jeq0, jge0, jgt0, jinB, jnat, clt, cle, ceq, cgt, cge, lI_add, lI_sub, lI_mul, jadd, jsub, jmul, jneg, jtol, b010, b011, pv_2t, Int.toNat_natCast, Option.some.injEq, exists_eq_left', if_true, if_false, wsF go, g7, e1, hx, gU, hu e (by omega)]
        have := ih (e + 1) (zsI g (x + 4) (4 * c + e) (iI (W (4 * c + e) + s * (cn e r : Int)))) (by omega) (hf.I rfl) fun i hi => ?_
        · rw [ef] at this
          exact this
        · rw [zI_s]
          by_cases z0 : i = 4 * c + e
          · rw [if_pos ⟨rfl, z0⟩, z0, if_pos ⟨by omega, by omega, by omega⟩, show (4 * c + e) % 4 = e by omega]
          · rw [if_neg (fun z => z0 z.2), hI i hi]
            by_cases z : i / 4 = c ∧ i % 4 < e ∧ i % 4 ≠ c
            · rw [if_pos z, if_pos ⟨z.1, by omega, z.2.2⟩]
            · rw [if_neg z, if_neg (by omega)]
  refine vs_ok 4 ?_
  rw [show ((gRes 131).drop 10).take 4 = [.iconst 1, .istore 3, .iconst 0, .istore 4] from rfl]
  simp (disch := omega) only [vs_iconst, vs_istore3n, vs_istore3i, vs_istore3r, vs_istore3l, vs_istore4n, vs_istore4i, vs_istore4r, vs_istore4l, vs_nil, gv_0, gv_1, gv_2, gv_3, pv_0, pv_1, va_rf_s, Nat.reduceDiv, Nat.reduceMod, Nat.reduceAdd, Nat.reduceMul, Int.reduceToNat, true_and, and_true, and_self, cP_eq, cP_ne, cP_lt, cP_ge, cP_gt, cP_le, eL_i, eL_l, eL_r, eL_n, Option.toList_none, Option.toList_some, List.nil_append, List.cons_append, kkI, llI, nnI, rrI, jjI, kkJ, llJ, nnJ, rrJ, iiJ, zIIs, zJJs, nEF, nET, and_false, false_and, jmin, jmax, catS_n, catS_i, catS_r, catS_l, Nat.reduceLeDiff, j1eq1, n21, jt0, jt1, Bool.false_eq_true, Classical.not_not, true_or, or_true, false_or, or_false, true_imp_iff, false_imp_iff, not_true_eq_false, not_false_eq_true, jif0, jif1, jifb, ltT, ltF, leT, leF, eqT, eqF, jlt, jle, jeq, jlt0, jle0, jeq0, jge0, jgt0, jinB, jnat, clt, cle, ceq, cgt, cge, lI_add, lI_sub, lI_mul, jadd, jsub, jmul, jneg, jtol, b010, b011, pv_2t, Int.toNat_natCast, Option.some.injEq, exists_eq_left', if_true, if_false]
  exact lp n 0 h (by omega) fi.rf fun i hi => by rw [if_neg (by omega)]; exact hW i hi
