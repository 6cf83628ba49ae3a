/-! the law's loop, and its beginning -/
theorem and31 (a : Int32) : ∃ j : Nat, j < 32 ∧ a &&& Int32.ofInt 31 = iI (j : Nat) := by
  refine ⟨(a.toBitVec &&& 31#32).toNat, ?_, ?_⟩
  · rw [BitVec.toNat_and]
    exact Nat.lt_of_le_of_lt Nat.and_le_right (by decide)
  · apply Int32.toBitVec_inj.mp
    show a.toBitVec &&& BitVec.ofInt 32 31 = BitVec.ofInt 32 (((a.toBitVec &&& 31#32).toNat : Nat) : Int)
    rw [BitVec.ofInt_natCast, BitVec.ofNat_toNat, BitVec.setWidth_eq]
    rfl
abbrev swO : List Int := [25, 82, 99, 106, 113, 158, 176, 204, 248, 296, 333, 350, 357, 374, 381, 388, 395, 412, 429, 486, 541, 548, 565, 592, 629, 646, 663, 670, 688, 716, 744, 789]
theorem sw_row : ∀ j ∈ List.range 32, swt 806 0 31 #[25, 82, 99, 106, 113, 158, 176, 204, 248, 296, 333, 350, 357, 374, 381, 388, 395, 412, 429, 486, 541, 548, 565, 592, 629, 646, 663, 670, 688, 716, 744, 789] (iI (j : Nat)) = (swO.getD j 0).toNat := by decide +kernel
section LOOP
variable {x m o L : Nat} {S : Nat → Int} {Q : Nat → Option Value → Hp → Prop}
set_option maxRecDepth 20000 in
theorem lw_any {n c s j : Nat} {h : Hp} {a5 a6 a7 : Option Value} (hj : j < 32) (E : LE h x m o L S c s) (hm : m = x + 161) (ho : o = x + 197) (hS : ∀ k, i32 (S k)) (hL : L ≤ 3072) (hn : n + 6 ≤ L) (K : ∀ g b5 b6 b7, LE g x m o L S (c + 1) (s + 6) → PW 140 282 806 [some (.ref zSC), some (.ref x), some (.ref m), some (.ref o), some (.int (iI n)), b5, b6, b7] [] g Q) : PW 140 282 (swO.getD j 0).toNat [some (.ref zSC), some (.ref x), some (.ref m), some (.ref o), some (.int (iI n)), a5, a6, a7] [] h Q := by
  match j, hj with
  | 0, _ => exact lw_0 E hm ho hS hL hn K
  | 1, _ => exact lw_1 E hm ho hS hL hn K
  | 2, _ => exact lw_2 E hm ho hS hL hn K
  | 3, _ => exact lw_3 E hm ho hS hL hn K
  | 4, _ => exact lw_4 E hm ho hS hL hn K
  | 5, _ => exact lw_5 E hm ho hS hL hn K
  | 6, _ => exact lw_6 E hm ho hS hL hn K
  | 7, _ => exact lw_7 E hm ho hS hL hn K
  | 8, _ => exact lw_8 E hm ho hS hL hn K
  | 9, _ => exact lw_9 E hm ho hS hL hn K
  | 10, _ => exact lw_10 E hm ho hS hL hn K
  | 11, _ => exact lw_11 E hm ho hS hL hn K
  | 12, _ => exact lw_12 E hm ho hS hL hn K
  | 13, _ => exact lw_13 E hm ho hS hL hn K
  | 14, _ => exact lw_14 E hm ho hS hL hn K
  | 15, _ => exact lw_15 E hm ho hS hL hn K
  | 16, _ => exact lw_16 E hm ho hS hL hn K
  | 17, _ => exact lw_17 E hm ho hS hL hn K
  | 18, _ => exact lw_18 E hm ho hS hL hn K
  | 19, _ => exact lw_19 E hm ho hS hL hn K
  | 20, _ => exact lw_20 E hm ho hS hL hn K
  | 21, _ => exact lw_21 E hm ho hS hL hn K
  | 22, _ => exact lw_22 E hm ho hS hL hn K
  | 23, _ => exact lw_23 E hm ho hS hL hn K
  | 24, _ => exact lw_24 E hm ho hS hL hn K
  | 25, _ => exact lw_25 E hm ho hS hL hn K
  | 26, _ => exact lw_26 E hm ho hS hL hn K
  | 27, _ => exact lw_27 E hm ho hS hL hn K
  | 28, _ => exact lw_28 E hm ho hS hL hn K
  | 29, _ => exact lw_29 E hm ho hS hL hn K
  | 30, _ => exact lw_30 E hm ho hS hL hn K
  | 31, _ => exact lw_31 E hm ho hS hL hn K
  | k + 32, h => exact absurd h (by omega)
set_option maxRecDepth 20000 in
theorem lw_loop (hm : m = x + 161) (ho : o = x + 197) (hS : ∀ k, i32 (S k)) (hL : L ≤ 3072) : ∀ (f n c s : Nat) (h : Hp) (a5 a6 a7 : Option Value), LE h x m o L S c s → L < n + 6 * f + 6 → n ≤ 4000 → (∀ g, zC g ≤ c + f → zS g ≤ s + 6 * f → Q 0 (some (.int (iI 1))) g) → PW 140 282 13 [some (.ref zSC), some (.ref x), some (.ref m), some (.ref o), some (.int (iI n)), a5, a6, a7] [] h Q := by
  intro f
  induction f with
  | zero =>
    intro n c s h a5 a6 a7 E hf hn q
    obtain ⟨I, e1, e2, e3, e4⟩ := id E
    refine PW.il rfl rfl ?_
    refine PW.al rfl rfl ?_
    refine PW.step (i' := 16) (ls' := [some (.ref zSC), some (.ref x), some (.ref m), some (.ref o), some (.int (iI n)), a5, a6, a7]) (h' := h) (st' := [.int (iI L), .int (iI n)]) rfl rfl rfl ?_ ?_
    · show xSlen 15 _ (.ref zSC :: [.int (iI n)]) h = _
      dsimp only [xSlen]
      rw [if_pos rfl, e3]
      rw [show Int32.ofNat L = iI L from nI_iI L]
    refine vs_ok 3 ?_
    rw [show ((gRes 282).drop 16).take 3 = [.iconst 6, .isub, .if_icmp .gt 808] from rfl]
    simp (disch := omega) only [vs_isub, vs_iconst, vs_if_icmp, vs_nil, gv_0, gv_1, gv_2, gv_3, pv_0, pv_1, va_rf_s, Nat.reduceDiv, Nat.reduceMod, Nat.reduceAdd, Nat.reduceMul, Int.reduceToNat, true_and, and_true, and_self, cP_eq, cP_ne, cP_lt, cP_ge, cP_gt, cP_le, eL_i, eL_l, eL_r, eL_n, Option.toList_none, Option.toList_some, List.nil_append, List.cons_append, kkI, llI, nnI, rrI, jjI, kkJ, llJ, nnJ, rrJ, iiJ, zIIs, zJJs, nEF, nET, and_false, false_and, jmin, jmax, catS_n, catS_i, catS_r, catS_l, Nat.reduceLeDiff, j1eq1, n21, jt0, jt1, Bool.false_eq_true, Classical.not_not, true_or, or_true, false_or, or_false, true_imp_iff, false_imp_iff, not_true_eq_false, not_false_eq_true, jif0, jif1, jifb, ltT, ltF, leT, leF, eqT, eqF, jlt, jle, jeq, jlt0, jle0, jeq0, jge0, jgt0, jinB, jnat, clt, cle, ceq, cgt, cge, lI_add, lI_sub, lI_mul, jadd, jsub, jmul, jneg, jtol, b010, b011, pv_2t, Int.toNat_natCast, Option.some.injEq, exists_eq_left', if_true, if_false]
    refine vs_ok 2 ?_
    rw [show ((gRes 282).drop 808).take 2 = [.iconst 1, .ireturn] from rfl]
    simp (disch := omega) only [vs_iconst, vs_ireturn, vs_nil, gv_0, gv_1, gv_2, gv_3, pv_0, pv_1, va_rf_s, Nat.reduceDiv, Nat.reduceMod, Nat.reduceAdd, Nat.reduceMul, Int.reduceToNat, true_and, and_true, and_self, cP_eq, cP_ne, cP_lt, cP_ge, cP_gt, cP_le, eL_i, eL_l, eL_r, eL_n, Option.toList_none, Option.toList_some, List.nil_append, List.cons_append, kkI, llI, nnI, rrI, jjI, kkJ, llJ, nnJ, rrJ, iiJ, zIIs, zJJs, nEF, nET, and_false, false_and, jmin, jmax, catS_n, catS_i, catS_r, catS_l, Nat.reduceLeDiff, j1eq1, n21, jt0, jt1, Bool.false_eq_true, Classical.not_not, true_or, or_true, false_or, or_false, true_imp_iff, false_imp_iff, not_true_eq_false, not_false_eq_true, jif0, jif1, jifb, ltT, ltF, leT, leF, eqT, eqF, jlt, jle, jeq, jlt0, jle0, jeq0, jge0, jgt0, jinB, jnat, clt, cle, ceq, cgt, cge, lI_add, lI_sub, lI_mul, jadd, jsub, jmul, jneg, jtol, b010, b011, pv_2t, Int.toNat_natCast, Option.some.injEq, exists_eq_left', if_true, if_false, show gRc 282 = 2 from rfl]
    exact q h (by omega) (by omega)
  | succ f ih =>
    intro n c s h a5 a6 a7 E hf hn q
    obtain ⟨I, e1, e2, e3, e4⟩ := id E
    refine PW.il rfl rfl ?_
    refine PW.al rfl rfl ?_
    refine PW.step (i' := 16) (ls' := [some (.ref zSC), some (.ref x), some (.ref m), some (.ref o), some (.int (iI n)), a5, a6, a7]) (h' := h) (st' := [.int (iI L), .int (iI n)]) rfl rfl rfl ?_ ?_
    · show xSlen 15 _ (.ref zSC :: [.int (iI n)]) h = _
      dsimp only [xSlen]
      rw [if_pos rfl, e3]
      rw [show Int32.ofNat L = iI L from nI_iI L]
    by_cases cc : n + 6 ≤ L
    · refine vs_ok 3 ?_
      rw [show ((gRes 282).drop 16).take 3 = [.iconst 6, .isub, .if_icmp .gt 808] from rfl]
      simp (disch := omega) only [vs_isub, vs_iconst, vs_if_icmp, vs_nil, gv_0, gv_1, gv_2, gv_3, pv_0, pv_1, va_rf_s, Nat.reduceDiv, Nat.reduceMod, Nat.reduceAdd, Nat.reduceMul, Int.reduceToNat, true_and, and_true, and_self, cP_eq, cP_ne, cP_lt, cP_ge, cP_gt, cP_le, eL_i, eL_l, eL_r, eL_n, Option.toList_none, Option.toList_some, List.nil_append, List.cons_append, kkI, llI, nnI, rrI, jjI, kkJ, llJ, nnJ, rrJ, iiJ, zIIs, zJJs, nEF, nET, and_false, false_and, jmin, jmax, catS_n, catS_i, catS_r, catS_l, Nat.reduceLeDiff, j1eq1, n21, jt0, jt1, Bool.false_eq_true, Classical.not_not, true_or, or_true, false_or, or_false, true_imp_iff, false_imp_iff, not_true_eq_false, not_false_eq_true, jif0, jif1, jifb, ltT, ltF, leT, leF, eqT, eqF, jlt, jle, jeq, jlt0, jle0, jeq0, jge0, jgt0, jinB, jnat, clt, cle, ceq, cgt, cge, lI_add, lI_sub, lI_mul, jadd, jsub, jmul, jneg, jtol, b010, b011, pv_2t, Int.toNat_natCast, Option.some.injEq, exists_eq_left', if_true, if_false]
      refine PW.al rfl rfl ?_
      refine PW.il rfl rfl ?_
      refine PW.step (i' := 22) (ls' := [some (.ref zSC), some (.ref x), some (.ref m), some (.ref o), some (.int (iI n)), a5, a6, a7]) (h' := h) (st' := [.int (iI (S n))]) rfl rfl rfl ?_ ?_
      · show xSal 21 _ (.int (iI n) :: .ref zSC :: []) h = _
        dsimp only [xSal]
        have e5 : (iI (n : Int)).toNatClampNeg = n := (jnat (x := (n : Int)) (by omega) (by omega)).trans (by omega)
        rw [e5, if_pos ⟨rfl, by rw [e3]; exact jinB (x := (n : Int)) (by omega) (by omega) (by omega)⟩, e4 n (by omega)]
      refine PW.step (i' := 23) rfl rfl rfl rfl ?_
      refine PW.step (i' := 24) rfl rfl rfl rfl ?_
      obtain ⟨j, hj, ej⟩ := and31 (iI (S n))
      show PW 140 282 24 _ [.int (iI (S n) &&& Int32.ofInt 31)] h Q
      rw [ej]
      refine PW.step rfl rfl rfl (show ex1 24 (.tableswitch 806 0 31 #[25, 82, 99, 106, 113, 158, 176, 204, 248, 296, 333, 350, 357, 374, 381, 388, 395, 412, 429, 486, 541, 548, 565, 592, 629, 646, 663, 670, 688, 716, 744, 789]) _ [.int (iI (j : Nat))] h = some (swt 806 0 31 #[25, 82, 99, 106, 113, 158, 176, 204, 248, 296, 333, 350, 357, 374, 381, 388, 395, 412, 429, 486, 541, 548, 565, 592, 629, 646, 663, 670, 688, 716, 744, 789] (iI (j : Nat)), _, [], h) from rfl) ?_
      rw [sw_row j (List.mem_range.mpr hj)]
      refine lw_any hj E hm ho hS hL cc fun g b5 b6 b7 E2 => ?_
      refine vs_ok 2 ?_
      rw [show ((gRes 282).drop 806).take 2 = [.iinc 4 6, .goto 13] from rfl]
      simp (disch := omega) only [vs_goto, vs_iinc4n, vs_iinc4i, vs_iinc4r, vs_iinc4l, vs_nil, gv_0, gv_1, gv_2, gv_3, pv_0, pv_1, va_rf_s, Nat.reduceDiv, Nat.reduceMod, Nat.reduceAdd, Nat.reduceMul, Int.reduceToNat, true_and, and_true, and_self, cP_eq, cP_ne, cP_lt, cP_ge, cP_gt, cP_le, eL_i, eL_l, eL_r, eL_n, Option.toList_none, Option.toList_some, List.nil_append, List.cons_append, kkI, llI, nnI, rrI, jjI, kkJ, llJ, nnJ, rrJ, iiJ, zIIs, zJJs, nEF, nET, and_false, false_and, jmin, jmax, catS_n, catS_i, catS_r, catS_l, Nat.reduceLeDiff, j1eq1, n21, jt0, jt1, Bool.false_eq_true, Classical.not_not, true_or, or_true, false_or, or_false, true_imp_iff, false_imp_iff, not_true_eq_false, not_false_eq_true, jif0, jif1, jifb, ltT, ltF, leT, leF, eqT, eqF, jlt, jle, jeq, jlt0, jle0, jeq0, jge0, jgt0, jinB, jnat, clt, cle, ceq, cgt, cge, lI_add, lI_sub, lI_mul, jadd, jsub, jmul, jneg, jtol, b010, b011, pv_2t, Int.toNat_natCast, Option.some.injEq, exists_eq_left', if_true, if_false]
      have en : (n : Int) + 6 = ((n + 6 : Nat) : Int) := by omega
      rw [en]
      exact ih (n + 6) (c + 1) (s + 6) g b5 b6 b7 E2 (by omega) (by omega) fun g2 q1 q2 => q g2 (by omega) (by omega)
    · refine vs_ok 3 ?_
      rw [show ((gRes 282).drop 16).take 3 = [.iconst 6, .isub, .if_icmp .gt 808] from rfl]
      simp (disch := omega) only [vs_isub, vs_iconst, vs_if_icmp, vs_nil, gv_0, gv_1, gv_2, gv_3, pv_0, pv_1, va_rf_s, Nat.reduceDiv, Nat.reduceMod, Nat.reduceAdd, Nat.reduceMul, Int.reduceToNat, true_and, and_true, and_self, cP_eq, cP_ne, cP_lt, cP_ge, cP_gt, cP_le, eL_i, eL_l, eL_r, eL_n, Option.toList_none, Option.toList_some, List.nil_append, List.cons_append, kkI, llI, nnI, rrI, jjI, kkJ, llJ, nnJ, rrJ, iiJ, zIIs, zJJs, nEF, nET, and_false, false_and, jmin, jmax, catS_n, catS_i, catS_r, catS_l, Nat.reduceLeDiff, j1eq1, n21, jt0, jt1, Bool.false_eq_true, Classical.not_not, true_or, or_true, false_or, or_false, true_imp_iff, false_imp_iff, not_true_eq_false, not_false_eq_true, jif0, jif1, jifb, ltT, ltF, leT, leF, eqT, eqF, jlt, jle, jeq, jlt0, jle0, jeq0, jge0, jgt0, jinB, jnat, clt, cle, ceq, cgt, cge, lI_add, lI_sub, lI_mul, jadd, jsub, jmul, jneg, jtol, b010, b011, pv_2t, Int.toNat_natCast, Option.some.injEq, exists_eq_left', if_true, if_false]
      refine vs_ok 2 ?_
      rw [show ((gRes 282).drop 808).take 2 = [.iconst 1, .ireturn] from rfl]
      simp (disch := omega) only [vs_iconst, vs_ireturn, vs_nil, gv_0, gv_1, gv_2, gv_3, pv_0, pv_1, va_rf_s, Nat.reduceDiv, Nat.reduceMod, Nat.reduceAdd, Nat.reduceMul, Int.reduceToNat, true_and, and_true, and_self, cP_eq, cP_ne, cP_lt, cP_ge, cP_gt, cP_le, eL_i, eL_l, eL_r, eL_n, Option.toList_none, Option.toList_some, List.nil_append, List.cons_append, kkI, llI, nnI, rrI, jjI, kkJ, llJ, nnJ, rrJ, iiJ, zIIs, zJJs, nEF, nET, and_false, false_and, jmin, jmax, catS_n, catS_i, catS_r, catS_l, Nat.reduceLeDiff, j1eq1, n21, jt0, jt1, Bool.false_eq_true, Classical.not_not, true_or, or_true, false_or, or_false, true_imp_iff, false_imp_iff, not_true_eq_false, not_false_eq_true, jif0, jif1, jifb, ltT, ltF, leT, leF, eqT, eqF, jlt, jle, jeq, jlt0, jle0, jeq0, jge0, jgt0, jinB, jnat, clt, cle, ceq, cgt, cge, lI_add, lI_sub, lI_mul, jadd, jsub, jmul, jneg, jtol, b010, b011, pv_2t, Int.toNat_natCast, Option.some.injEq, exists_eq_left', if_true, if_false, show gRc 282 = 2 from rfl]
      exact q h (by omega) (by omega)
end LOOP
theorem zNew_lo {h : Hp} {k n s a : Nat} (ha : a ≠ zN h) : zL (zNew h k n s) a = zL h a ∧ zI (zNew h k n s) a = zI h a := by
  refine ⟨?_, ?_⟩
  · show u1 (zL h) (zN h) n a = _
    unfold u1
    rw [if_neg ha]
  · show u1 (zI h) (zN h) (fun _ => 0) a = _
    unfold u1
    rw [if_neg ha]
set_option maxRecDepth 20000 in
/-- the whole run of the small machine -/
theorem lw_begin {L : Nat} {xs : Nat → Int32} (hL : L ≤ 3072) : ∃ n h', ev n 140 gLAW 0 (entL (gML gLAW) [.ref zSC]) [] (h0S L xs) = some (0, some (.int 1), h') ∧ zC h' ≤ 601024 ∧ zS h' ≤ 7293034 := by
  have P : PW 140 282 0 [some (.ref zSC), none, none, none, none, none, none, none] [] (h0S L xs) (fun t v g => t = 0 ∧ v = some (.int 1) ∧ zC g ≤ 601024 ∧ zS g ≤ 7293034) := by
    have n0 : zN (h0S L xs) = 0 := rfl
    have c0 : zC (h0S L xs) = 0 := rfl
    have s0 : zS (h0S L xs) = 0 := rfl
    have l0 : zL (h0S L xs) zSC = L := by
      show (if zSC = zSC then L else 0) = L
      rw [if_pos rfl]
    have x0 : zI (h0S L xs) zSC = xs := by
      funext i
      show (if zSC = zSC then xs i else 0) = _
      rw [if_pos rfl]
    generalize h0S L xs = h0 at *
    refine PW.step (i' := 1) (ls' := [some (.ref zSC), none, none, none, none, none, none, none]) (st' := [.ref (zN h0)]) (h' := zNew h0 11 0 (gN 11)) rfl rfl rfl ?_ ?_
    · show xNew 11 (gN 11) 0 _ _ h0 = _
      unfold xNew
      rw [if_pos ⟨by decide, by rw [n0]; decide, by rw [n0]; rfl⟩]
    have w1 : gw (fun _ => False) 1 (gN 11) h0 (zNew h0 11 0 (gN 11)) := gw_new
    have k1 := zNew_K (h := h0) (k := 11) (n := 0) (s := gN 11)
    have i1 := zNew_I (h := h0) (k := 11) (n := 0) (s := gN 11)
    have v1 := zNew_lo (h := h0) (k := 11) (n := 0) (s := gN 11) (a := zSC) (by rw [n0]; decide)
    rw [n0] at k1 i1 ⊢
    generalize zNew h0 11 0 (gN 11) = h1 at *
    have n1 : zN h1 = 1 := by rw [w1.1, n0]
    have c1 : zC h1 = 1 := by rw [w1.2.1, c0]
    have s1 : zS h1 = 16 := by rw [w1.2.2.1, s0]; rfl
    refine PW.step (i' := 2) (st' := [.ref 0, .ref 0]) rfl rfl rfl rfl ?_
    refine PW.is (b := 0) (a := []) (r := [.ref 0]) rfl rfl rfl (le_b rfl) (le_b rfl) ?_
    refine PW.kp (by rw [n1]; decide) ?_
    refine t_D_init (d := 134) k1 n1 (by decide) i1 fun h2 s hs w2 d2 kp2 => ⟨rfl, Or.inr (by rw [n1]; rfl), ?_⟩
    have n2 : zN h2 = 161 := by rw [w2.1, n1]
    have c2 : zC h2 = 161 := by rw [w2.2.1, c1]
    have s2 : zS h2 = 16 + s := by rw [w2.2.2.1, s1]
    have l2 : zL h2 zSC = L := by rw [kp2.2.2.1, v1.1, l0]
    have x2 : zI h2 zSC = xs := by rw [kp2.2.1, v1.2, x0]
    show PW 140 282 3 [some (.ref zSC), none, none, none, none, none, none, none] [.ref 0] h2 _
    refine PW.step (i' := 4) (ls' := [some (.ref zSC), some (.ref 0), none, none, none, none, none, none]) (st' := []) rfl rfl rfl rfl ?_
    refine PW.step (i' := 5) (ls' := [some (.ref zSC), some (.ref 0), none, none, none, none, none, none]) (st' := [.ref (zN h2)]) (h' := zNew h2 12 0 (gN 12)) rfl rfl rfl ?_ ?_
    · show xNew 12 (gN 12) 4 _ _ h2 = _
      unfold xNew
      rw [if_pos ⟨by decide, by rw [n2]; decide, by rw [n2]; rfl⟩]
    have w3 : gw (fun _ => False) 1 (gN 12) h2 (zNew h2 12 0 (gN 12)) := gw_new
    have k3 := zNew_K (h := h2) (k := 12) (n := 0) (s := gN 12)
    have i3 := zNew_I (h := h2) (k := 12) (n := 0) (s := gN 12)
    have j3 := zNew_J (h := h2) (k := 12) (n := 0) (s := gN 12)
    have v3 := zNew_lo (h := h2) (k := 12) (n := 0) (s := gN 12) (a := zSC) (by rw [n2]; decide)
    have d3 := d2.gk w3 (by rw [n2]; omega) (fun q z => z.elim)
    rw [n2] at k3 i3 j3 ⊢
    generalize zNew h2 12 0 (gN 12) = h3 at *
    have n3 : zN h3 = 162 := by rw [w3.1, n2]
    have c3 : zC h3 = 162 := by rw [w3.2.1, c2]
    have s3 : zS h3 = 16 + s + 59 := by rw [w3.2.2.1, s2]; rfl
    refine PW.step (i' := 6) (st' := [.ref 161, .ref 161]) rfl rfl rfl rfl ?_
    refine PW.is (b := 161) (a := []) (r := [.ref 161]) rfl rfl rfl (le_b rfl) (le_b rfl) ?_
    refine PW.kp (by rw [n3]; decide) ?_
    refine t_M_init (d := 138) k3 n3 (by decide) i3 j3 fun h4 s9 hs9 w4 m4 z4 kp4 => ⟨rfl, Or.inr (by rw [n3]; rfl), ?_⟩
    have n4 : zN h4 = 197 := by rw [w4.1, n3]
    have c4 : zC h4 = 197 := by rw [w4.2.1, c3]
    have s4 : zS h4 = 16 + s + 59 + s9 := by rw [w4.2.2.1, s3]
    have l4 : zL h4 zSC = L := by rw [kp4.2.2.1, v3.1, l2]
    have x4 : zI h4 zSC = xs := by rw [kp4.2.1, v3.2, x2]
    have d4 := d3.gk w4 (by rw [n3]; omega) (fun q z => by omega)
    show PW 140 282 7 [some (.ref zSC), some (.ref 0), none, none, none, none, none, none] [.ref 161] h4 _
    refine PW.step (i' := 8) (ls' := [some (.ref zSC), some (.ref 0), some (.ref 161), none, none, none, none, none]) (st' := []) rfl rfl rfl rfl ?_
    refine PW.step (i' := 9) (st' := [.int (iI 1)]) rfl rfl rfl rfl ?_
    refine PW.step (i' := 10) (ls' := [some (.ref zSC), some (.ref 0), some (.ref 161), none, none, none, none, none]) (st' := [.ref (zN h4)]) (h' := zNew h4 15 1 1) rfl rfl rfl ?_ ?_
    · show xNwa 15 9 _ [.int (iI 1)] h4 = _
      dsimp only [xNwa]
      rw [if_pos ⟨by decide, by decide, by decide, by rw [n4]; decide, by rw [n4]; rfl⟩]
      rfl
    have w5 : gw (fun _ => False) 1 1 h4 (zNew h4 15 1 1) := gw_new
    have k5 := zNew_K (h := h4) (k := 15) (n := 1) (s := 1)
    have b5 := zNew_L (h := h4) (k := 15) (n := 1) (s := 1)
    have v5 := zNew_lo (h := h4) (k := 15) (n := 1) (s := 1) (a := zSC) (by rw [n4]; decide)
    have d5 := d4.gk w5 (by rw [n4]; omega) (fun q z => z.elim)
    have m5 : mO (zNew h4 15 1 1) 161 := by
      obtain ⟨q1, q2, q3⟩ := m4
      refine ⟨by rw [w5.2.2.2.1 161 (by omega)]; exact q1, by rw [w5.1]; omega, fun i p hp => ?_⟩
      have hb := q3 i p hp
      have hi : 161 + 1 + i < 197 := by
        have := (List.getElem?_eq_some_iff.mp hp).1
        have hl : moL.length = 35 := rfl
        omega
      rw [w5.2.2.2.2.2.2.2 161 (by omega) (fun z => z), w5.2.2.2.1 _ (by omega), w5.2.2.2.2.1 _ (by omega)]
      exact hb
    have z5 : ∀ q, 161 ≤ q → q < 161 + 36 → zI (zNew h4 15 1 1) q = (fun _ => 0) ∧ zJ (zNew h4 15 1 1) q = fun _ => 0 := fun q q1 q2 => by
      rw [w5.2.2.2.2.2.1 q (by omega) (fun z => z), w5.2.2.2.2.2.2.1 q (by omega) (fun z => z)]
      exact z4 q q1 (by omega)
    rw [n4] at k5 b5 ⊢
    generalize zNew h4 15 1 1 = h5 at *
    have n5 : zN h5 = 198 := by rw [w5.1, n4]
    have c5 : zC h5 = 198 := by rw [w5.2.1, c4]
    have s5 : zS h5 = 16 + s + 59 + s9 + 1 := by rw [w5.2.2.1, s4]
    have I5 : INV h5 0 161 197 := INV0 d5 (by omega) m5 z5 ⟨k5, b5, by omega⟩
    refine PW.step (i' := 11) (ls' := [some (.ref zSC), some (.ref 0), some (.ref 161), some (.ref 197), none, none, none, none]) (st' := []) rfl rfl rfl rfl ?_
    refine PW.step (i' := 12) (st' := [.int (iI 0)]) rfl rfl rfl rfl ?_
    refine PW.step (i' := 13) (ls' := [some (.ref zSC), some (.ref 0), some (.ref 161), some (.ref 197), some (.int (iI (0 : Nat))), none, none, none]) (st' := []) rfl rfl rfl rfl ?_
    refine lw_loop (S := fun k => (xs k).toInt) rfl rfl (fun k => i32_of _) hL 513 0 198 680100 h5 none none none ⟨I5, by rw [n5]; decide, ⟨by omega, by omega⟩, by rw [v5.1, l4], fun k hk => by rw [v5.2, x4]; exact (iI_of _).symm⟩ (by omega) (by omega) fun g q1 q2 => ⟨rfl, rfl, by omega, by omega⟩
  obtain ⟨n, t, v, h', he, rfl, rfl, hc, hs⟩ := P
  exact ⟨n, h', he, hc, hs⟩
