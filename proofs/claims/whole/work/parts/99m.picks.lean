/-! DiceRing: picks -/
/-- g is h once the net is fresh, of the wins bt -/
abbrev nwG (h g : Hp) (x nm : Nat) (V : Nat → RowVal) (bt : Nat → Nat) : Prop := fi (nwC x) h g ∧ (∀ i, i ≠ 6 → zI g x i = zI h x i) ∧ zI g x 6 = iI 0 ∧ zI g (x + 117) 3 = zI h (x + 117) 3 ∧ netC g (x + 117) nm bt ∧ ldP V nm bt
set_option maxRecDepth 100000 in
theorem pcN_pos : ∀ n, n < 4096 → 0 < n → 1 ≤ pcN n 12 := by decide +kernel
theorem t_picks {d : Nat} {h : Hp} {x t nm : Nat} {s : Int} {F Wd : Nat → Int} {V : Nat → RowVal} {Q : Nat → Option Value → Hp → Prop} (N : zK h x = 11 ∧ x < zN h) (h2 : zR h x 2 = some t) (y7 : zR h x 7 = some (x + 121)) (hga : objA h (x + 121) 2 gaL) (hb : isTb h t nm F Wd) (hv : ∀ k, k < 12 → rowP h (t + 4 + 2 * k) 200 (V k)) (hL : ∀ a b, a < nm → b < nm → i64 (ldV (V a).2.2.2 (V b).2.2.2)) (hn : nwS h x nm V) (hd : x < t ∧ (t + 28 ≤ x + 117 ∨ x + 118 < t)) (hs : i32 s)
    (q0 : ¬ (0 < s ∧ s.toNat < 2 ^ nm ∧ pcN s.toNat 12 ≤ 7) → Q 0 (some (.int (iI (-2)))) h)
    (qE : 0 < s ∧ s.toNat < 2 ^ nm ∧ pcN s.toNat 12 ≤ 7 → ∀ g bt, nwG h g x nm V bt → (∃ i j, i < j ∧ j < pcN s.toNat 12 ∧ evP bt (mbF s.toNat) i j) → ∀ g', fi (fun q => x + 121 ≤ q ∧ q ≤ x + 121 + 3) g g' → Q 0 (some (.int (iI (-1)))) g')
    (qN : 0 < s ∧ s.toNat < 2 ^ nm ∧ pcN s.toNat 12 ≤ 7 → ∀ g bt, nwG h g x nm V bt → (∀ i j, i < j → j < pcN s.toNat 12 → ¬ evP bt (mbF s.toNat) i j) → (∀ hd T, 1 ≤ hd → hd < 2 ^ pcN s.toNat 12 → ¬ gdP (pcN s.toNat 12) (s4F bt (mbF s.toNat) (pcN s.toNat 12)) hd T) → ∀ g', fi (fun q => x + 121 ≤ q ∧ q ≤ x + 121 + 3) g g' → Q 0 (some (.int (iI (-1)))) g')
    (qF : 0 < s ∧ s.toNat < 2 ^ nm ∧ pcN s.toNat 12 ≤ 7 → ∀ g bt, nwG h g x nm V bt → (∀ i j, i < j → j < pcN s.toNat 12 → ¬ evP bt (mbF s.toNat) i j) → ∀ hd T, 1 ≤ hd → hd < 2 ^ pcN s.toNat 12 → gdP (pcN s.toNat 12) (s4F bt (mbF s.toNat) (pcN s.toNat 12)) hd T → (∀ hd' T', 1 ≤ hd' → hd' < hd → ¬ gdP (pcN s.toNat 12) (s4F bt (mbF s.toNat) (pcN s.toNat 12)) hd' T') → ∀ g', fi (fun q => x + 121 ≤ q ∧ q ≤ x + 121 + 4) g g' → (∀ i, i < pcN s.toNat 12 → zI g' (x + 121 + 4) (mbF s.toNat i) = iI (T i / gcF T (pcN s.toNat 12))) → (∀ k, k < 12 → (∀ i, i < pcN s.toNat 12 → mbF s.toNat i ≠ k) → zI g' (x + 121 + 4) k = iI 0) → Q 0 (some (.int (iI (pcN hd 12)))) g') : PR (d + 10) m_D_picks [.ref x, .int (iI s)] h Q := by
  have b1 := hb.1
  have b2 := hb.2.1
  have b3 := hb.2.2.2.2.2
  have b4 : t < zN h := by omega
  have s1 := hs.1
  have s2 := hs.2
  show PW (d + 10) 160 0 [some (.ref x), some (.int (iI s))] [] h Q
  have no : ¬ (0 < s ∧ s.toNat < 2 ^ nm ∧ pcN s.toNat 12 ≤ 7) → PW (d + 10) 160 12 [some (.ref x), some (.int (iI s))] [] h Q := fun c => by
    refine vs_ok 2 ?_
    rw [show ((gRes 160).drop 12).take 2 = [.iconst (-2), .ireturn] from rfl]
    simp (disch := omega) only [vs_iconst, vs_ireturn, vs_nil, gv_0, gv_1, gv_2, gv_3, pv_0, pv_1, va_rf_s, Nat.reduceDiv, Nat.reduceMod, Nat.reduceAdd, Nat.reduceMul, Int.reduceToNat, true_and, and_true, and_self, cP_eq, cP_ne, cP_lt, cP_ge, cP_gt, cP_le, eL_i, eL_l, eL_r, eL_n, Option.toList_none, Option.toList_some, List.nil_append, List.cons_append, kkI, llI, nnI, rrI, jjI, kkJ, llJ, nnJ, rrJ, iiJ, zIIs, zJJs, nEF, nET, and_false, false_and, jmin, jmax, catS_n, catS_i, catS_r, catS_l, Nat.reduceLeDiff, j1eq1, n21, jt0, jt1, Bool.false_eq_true, Classical.not_not, true_or, or_true, false_or, or_false, true_imp_iff, false_imp_iff, not_true_eq_false, not_false_eq_true, jif0, jif1, jifb, ltT, ltF, leT, leF, eqT, eqF, jlt, jle, jeq, jlt0, jle0, jeq0, jge0, jgt0, jinB, jnat, clt, cle, ceq, cgt, cge, lI_add, lI_sub, lI_mul, jadd, jsub, jmul, jneg, jtol, b010, b011, pv_2t, Int.toNat_natCast, Option.some.injEq, exists_eq_left', if_true, if_false, show gRc 160 = 1 from rfl]
    exact q0 c
  by_cases c1 : 0 < s
  · obtain ⟨S, rfl⟩ : ∃ S : Nat, s = S := ⟨s.toNat, by omega⟩
    simp only [Int.toNat_natCast] at q0 qE qN qF no
    have js := jshr S nm (by omega) (by omega)
    have eb : S / 2 ^ nm ≤ S := Nat.div_le_self _ _
    have ez : S / 2 ^ nm = 0 ↔ S < 2 ^ nm := Nat.div_eq_zero_iff_lt (Nat.two_pow_pos nm)
    have pw := pw_b (show nm ≤ 12 by omega)
    generalize S / 2 ^ nm = e at js eb ez
    by_cases c2 : e = 0
    · have hS := ez.mp c2
      have pb := pcN_le S 12
      have pp := pcN_pos S (by omega) (by omega)
      refine vs_ok 9 ?_
      rw [show ((gRes 160).drop 0).take 9 = [.iload 1, .ifCond .le 12, .iload 1, .aload 0, .getfield 11022, .getfield 7030, .ishr, .ifCond .ne 12, .iload 1] from rfl]
      simp (disch := omega) only [vs_ifCond, vs_getfield, vs_aload0, vs_iload1, vs_nil, gv_0, gv_1, gv_2, gv_3, pv_0, pv_1, va_rf_s, vs_ishr, Nat.reduceDiv, Nat.reduceMod, Nat.reduceAdd, Nat.reduceMul, Int.reduceToNat, true_and, and_true, and_self, cP_eq, cP_ne, cP_lt, cP_ge, cP_gt, cP_le, eL_i, eL_l, eL_r, eL_n, Option.toList_none, Option.toList_some, List.nil_append, List.cons_append, kkI, llI, nnI, rrI, jjI, kkJ, llJ, nnJ, rrJ, iiJ, zIIs, zJJs, nEF, nET, and_false, false_and, jmin, jmax, catS_n, catS_i, catS_r, catS_l, Nat.reduceLeDiff, j1eq1, n21, jt0, jt1, Bool.false_eq_true, Classical.not_not, true_or, or_true, false_or, or_false, true_imp_iff, false_imp_iff, not_true_eq_false, not_false_eq_true, jif0, jif1, jifb, ltT, ltF, leT, leF, eqT, eqF, jlt, jle, jeq, jlt0, jle0, jeq0, jge0, jgt0, jinB, jnat, clt, cle, ceq, cgt, cge, lI_add, lI_sub, lI_mul, jadd, jsub, jmul, jneg, jtol, b010, b011, pv_2t, Int.toNat_natCast, Option.some.injEq, exists_eq_left', if_true, if_false, N, h2, b1, b3, b4, js, c2]
      refine PW.ss (r := []) rfl (le_b rfl) rfl rfl (le_b rfl) (le_b rfl) ?_
      refine t_bitCount (by omega) ⟨rfl, ⟨rfl, rfl⟩, ?_⟩
      by_cases c3 : pcN S 12 ≤ 7
      · have ok : 0 < (S : Int) ∧ S < 2 ^ nm ∧ pcN S 12 ≤ 7 := ⟨c1, hS, c3⟩
        refine vs_ok 2 ?_
        rw [show ((gRes 160).drop 10).take 2 = [.iconst 7, .if_icmp .le 14] from rfl]
        simp (disch := omega) only [vs_iconst, vs_if_icmp, vs_nil, gv_0, gv_1, gv_2, gv_3, pv_0, pv_1, va_rf_s, Nat.reduceDiv, Nat.reduceMod, Nat.reduceAdd, Nat.reduceMul, Int.reduceToNat, true_and, and_true, and_self, cP_eq, cP_ne, cP_lt, cP_ge, cP_gt, cP_le, eL_i, eL_l, eL_r, eL_n, Option.toList_none, Option.toList_some, List.nil_append, List.cons_append, kkI, llI, nnI, rrI, jjI, kkJ, llJ, nnJ, rrJ, iiJ, zIIs, zJJs, nEF, nET, and_false, false_and, jmin, jmax, catS_n, catS_i, catS_r, catS_l, Nat.reduceLeDiff, j1eq1, n21, jt0, jt1, Bool.false_eq_true, Classical.not_not, true_or, or_true, false_or, or_false, true_imp_iff, false_imp_iff, not_true_eq_false, not_false_eq_true, jif0, jif1, jifb, ltT, ltF, leT, leF, eqT, eqF, jlt, jle, jeq, jlt0, jle0, jeq0, jge0, jgt0, jinB, jnat, clt, cle, ceq, cgt, cge, lI_add, lI_sub, lI_mul, jadd, jsub, jmul, jneg, jtol, b010, b011, pv_2t, Int.toNat_natCast, Option.some.injEq, exists_eq_left', if_true, if_false]
        refine vs_ok 3 ?_
        rw [show ((gRes 160).drop 14).take 3 = [.aload 0, .getfield 11072, .aload 0] from rfl]
        simp (disch := omega) only [vs_getfield, vs_aload0, vs_nil, gv_0, gv_1, gv_2, gv_3, pv_0, pv_1, va_rf_s, Nat.reduceDiv, Nat.reduceMod, Nat.reduceAdd, Nat.reduceMul, Int.reduceToNat, true_and, and_true, and_self, cP_eq, cP_ne, cP_lt, cP_ge, cP_gt, cP_le, eL_i, eL_l, eL_r, eL_n, Option.toList_none, Option.toList_some, List.nil_append, List.cons_append, kkI, llI, nnI, rrI, jjI, kkJ, llJ, nnJ, rrJ, iiJ, zIIs, zJJs, nEF, nET, and_false, false_and, jmin, jmax, catS_n, catS_i, catS_r, catS_l, Nat.reduceLeDiff, j1eq1, n21, jt0, jt1, Bool.false_eq_true, Classical.not_not, true_or, or_true, false_or, or_false, true_imp_iff, false_imp_iff, not_true_eq_false, not_false_eq_true, jif0, jif1, jifb, ltT, ltF, leT, leF, eqT, eqF, jlt, jle, jeq, jlt0, jle0, jeq0, jge0, jgt0, jinB, jnat, clt, cle, ceq, cgt, cge, lI_add, lI_sub, lI_mul, jadd, jsub, jmul, jneg, jtol, b010, b011, pv_2t, Int.toNat_natCast, Option.some.injEq, exists_eq_left', if_true, if_false, N, y7]
        refine PW.iv rfl rfl rfl N.1 N.2 (le_b rfl) (le_b rfl) ?_
        refine t_freshNet (d := d + 6) N h2 hb hv hL hn hd fun g bt f e e6 e3 nc lp => ⟨rfl, ⟨f.1.2.2.1, rok (by rw [f.1.2.2.1]; have := hn.2.1.2.1; omega)⟩, ?_⟩
        have G : nwG h g x nm V bt := ⟨f, e, e6, e3, nc, lp⟩
        have ga := hga.fi f
        have M := gaF ga
        refine vs_ok 1 ?_
        rw [show ((gRes 160).drop 18).take 1 = [.iload 1] from rfl]
        simp (disch := omega) only [vs_iload1, vs_nil, gv_0, gv_1, gv_2, gv_3, pv_0, pv_1, va_rf_s, Nat.reduceDiv, Nat.reduceMod, Nat.reduceAdd, Nat.reduceMul, Int.reduceToNat, true_and, and_true, and_self, cP_eq, cP_ne, cP_lt, cP_ge, cP_gt, cP_le, eL_i, eL_l, eL_r, eL_n, Option.toList_none, Option.toList_some, List.nil_append, List.cons_append, kkI, llI, nnI, rrI, jjI, kkJ, llJ, nnJ, rrJ, iiJ, zIIs, zJJs, nEF, nET, and_false, false_and, jmin, jmax, catS_n, catS_i, catS_r, catS_l, Nat.reduceLeDiff, j1eq1, n21, jt0, jt1, Bool.false_eq_true, Classical.not_not, true_or, or_true, false_or, or_false, true_imp_iff, false_imp_iff, not_true_eq_false, not_false_eq_true, jif0, jif1, jifb, ltT, ltF, leT, leF, eqT, eqF, jlt, jle, jeq, jlt0, jle0, jeq0, jge0, jgt0, jinB, jnat, clt, cle, ceq, cgt, cge, lI_add, lI_sub, lI_mul, jadd, jsub, jmul, jneg, jtol, b010, b011, pv_2t, Int.toNat_natCast, Option.some.injEq, exists_eq_left', if_true, if_false]
        refine PW.iv rfl rfl rfl M.1.1 M.1.2 (le_b rfl) (le_b rfl) ?_
        refine t_play (d := d) ga nc (by omega) hS ⟨pp, c3⟩ (fun hE g' f' => ⟨rfl, ⟨f'.1.2.2.1, rfl⟩, ?_⟩) (fun hE hA g' f' => ⟨rfl, ⟨f'.1.2.2.1, rfl⟩, ?_⟩) (fun hE hd T a1 a2 a3 a4 g' f' a5 a6 => ⟨rfl, ⟨f'.1.2.2.1, rfl⟩, ?_⟩)
        · show PW (d + 10) 160 20 [some (.ref x), some (.int (iI S))] [.int _] g' Q
          refine vs_ok 1 ?_
          rw [show ((gRes 160).drop 20).take 1 = [.ireturn] from rfl]
          simp (disch := omega) only [vs_ireturn, vs_nil, gv_0, gv_1, gv_2, gv_3, pv_0, pv_1, va_rf_s, Nat.reduceDiv, Nat.reduceMod, Nat.reduceAdd, Nat.reduceMul, Int.reduceToNat, true_and, and_true, and_self, cP_eq, cP_ne, cP_lt, cP_ge, cP_gt, cP_le, eL_i, eL_l, eL_r, eL_n, Option.toList_none, Option.toList_some, List.nil_append, List.cons_append, kkI, llI, nnI, rrI, jjI, kkJ, llJ, nnJ, rrJ, iiJ, zIIs, zJJs, nEF, nET, and_false, false_and, jmin, jmax, catS_n, catS_i, catS_r, catS_l, Nat.reduceLeDiff, j1eq1, n21, jt0, jt1, Bool.false_eq_true, Classical.not_not, true_or, or_true, false_or, or_false, true_imp_iff, false_imp_iff, not_true_eq_false, not_false_eq_true, jif0, jif1, jifb, ltT, ltF, leT, leF, eqT, eqF, jlt, jle, jeq, jlt0, jle0, jeq0, jge0, jgt0, jinB, jnat, clt, cle, ceq, cgt, cge, lI_add, lI_sub, lI_mul, jadd, jsub, jmul, jneg, jtol, b010, b011, pv_2t, Int.toNat_natCast, Option.some.injEq, exists_eq_left', if_true, if_false, show gRc 160 = 1 from rfl]
          exact qE ok g bt G hE g' f'
        · show PW (d + 10) 160 20 [some (.ref x), some (.int (iI S))] [.int _] g' Q
          refine vs_ok 1 ?_
          rw [show ((gRes 160).drop 20).take 1 = [.ireturn] from rfl]
          simp (disch := omega) only [vs_ireturn, vs_nil, gv_0, gv_1, gv_2, gv_3, pv_0, pv_1, va_rf_s, Nat.reduceDiv, Nat.reduceMod, Nat.reduceAdd, Nat.reduceMul, Int.reduceToNat, true_and, and_true, and_self, cP_eq, cP_ne, cP_lt, cP_ge, cP_gt, cP_le, eL_i, eL_l, eL_r, eL_n, Option.toList_none, Option.toList_some, List.nil_append, List.cons_append, kkI, llI, nnI, rrI, jjI, kkJ, llJ, nnJ, rrJ, iiJ, zIIs, zJJs, nEF, nET, and_false, false_and, jmin, jmax, catS_n, catS_i, catS_r, catS_l, Nat.reduceLeDiff, j1eq1, n21, jt0, jt1, Bool.false_eq_true, Classical.not_not, true_or, or_true, false_or, or_false, true_imp_iff, false_imp_iff, not_true_eq_false, not_false_eq_true, jif0, jif1, jifb, ltT, ltF, leT, leF, eqT, eqF, jlt, jle, jeq, jlt0, jle0, jeq0, jge0, jgt0, jinB, jnat, clt, cle, ceq, cgt, cge, lI_add, lI_sub, lI_mul, jadd, jsub, jmul, jneg, jtol, b010, b011, pv_2t, Int.toNat_natCast, Option.some.injEq, exists_eq_left', if_true, if_false, show gRc 160 = 1 from rfl]
          exact qN ok g bt G hE hA g' f'
        · show PW (d + 10) 160 20 [some (.ref x), some (.int (iI S))] [.int _] g' Q
          refine vs_ok 1 ?_
          rw [show ((gRes 160).drop 20).take 1 = [.ireturn] from rfl]
          simp (disch := omega) only [vs_ireturn, vs_nil, gv_0, gv_1, gv_2, gv_3, pv_0, pv_1, va_rf_s, Nat.reduceDiv, Nat.reduceMod, Nat.reduceAdd, Nat.reduceMul, Int.reduceToNat, true_and, and_true, and_self, cP_eq, cP_ne, cP_lt, cP_ge, cP_gt, cP_le, eL_i, eL_l, eL_r, eL_n, Option.toList_none, Option.toList_some, List.nil_append, List.cons_append, kkI, llI, nnI, rrI, jjI, kkJ, llJ, nnJ, rrJ, iiJ, zIIs, zJJs, nEF, nET, and_false, false_and, jmin, jmax, catS_n, catS_i, catS_r, catS_l, Nat.reduceLeDiff, j1eq1, n21, jt0, jt1, Bool.false_eq_true, Classical.not_not, true_or, or_true, false_or, or_false, true_imp_iff, false_imp_iff, not_true_eq_false, not_false_eq_true, jif0, jif1, jifb, ltT, ltF, leT, leF, eqT, eqF, jlt, jle, jeq, jlt0, jle0, jeq0, jge0, jgt0, jinB, jnat, clt, cle, ceq, cgt, cge, lI_add, lI_sub, lI_mul, jadd, jsub, jmul, jneg, jtol, b010, b011, pv_2t, Int.toNat_natCast, Option.some.injEq, exists_eq_left', if_true, if_false, show gRc 160 = 1 from rfl]
          exact qF ok g bt G hE hd T a1 a2 a3 a4 g' f' a5 a6
      · refine vs_ok 2 ?_
        rw [show ((gRes 160).drop 10).take 2 = [.iconst 7, .if_icmp .le 14] from rfl]
        simp (disch := omega) only [vs_iconst, vs_if_icmp, vs_nil, gv_0, gv_1, gv_2, gv_3, pv_0, pv_1, va_rf_s, Nat.reduceDiv, Nat.reduceMod, Nat.reduceAdd, Nat.reduceMul, Int.reduceToNat, true_and, and_true, and_self, cP_eq, cP_ne, cP_lt, cP_ge, cP_gt, cP_le, eL_i, eL_l, eL_r, eL_n, Option.toList_none, Option.toList_some, List.nil_append, List.cons_append, kkI, llI, nnI, rrI, jjI, kkJ, llJ, nnJ, rrJ, iiJ, zIIs, zJJs, nEF, nET, and_false, false_and, jmin, jmax, catS_n, catS_i, catS_r, catS_l, Nat.reduceLeDiff, j1eq1, n21, jt0, jt1, Bool.false_eq_true, Classical.not_not, true_or, or_true, false_or, or_false, true_imp_iff, false_imp_iff, not_true_eq_false, not_false_eq_true, jif0, jif1, jifb, ltT, ltF, leT, leF, eqT, eqF, jlt, jle, jeq, jlt0, jle0, jeq0, jge0, jgt0, jinB, jnat, clt, cle, ceq, cgt, cge, lI_add, lI_sub, lI_mul, jadd, jsub, jmul, jneg, jtol, b010, b011, pv_2t, Int.toNat_natCast, Option.some.injEq, exists_eq_left', if_true, if_false]
        exact no fun z => c3 z.2.2
    · refine vs_ok 8 ?_
      rw [show ((gRes 160).drop 0).take 8 = [.iload 1, .ifCond .le 12, .iload 1, .aload 0, .getfield 11022, .getfield 7030, .ishr, .ifCond .ne 12] from rfl]
      simp (disch := omega) only [vs_ifCond, vs_getfield, vs_aload0, vs_iload1, vs_nil, gv_0, gv_1, gv_2, gv_3, pv_0, pv_1, va_rf_s, vs_ishr, Nat.reduceDiv, Nat.reduceMod, Nat.reduceAdd, Nat.reduceMul, Int.reduceToNat, true_and, and_true, and_self, cP_eq, cP_ne, cP_lt, cP_ge, cP_gt, cP_le, eL_i, eL_l, eL_r, eL_n, Option.toList_none, Option.toList_some, List.nil_append, List.cons_append, kkI, llI, nnI, rrI, jjI, kkJ, llJ, nnJ, rrJ, iiJ, zIIs, zJJs, nEF, nET, and_false, false_and, jmin, jmax, catS_n, catS_i, catS_r, catS_l, Nat.reduceLeDiff, j1eq1, n21, jt0, jt1, Bool.false_eq_true, Classical.not_not, true_or, or_true, false_or, or_false, true_imp_iff, false_imp_iff, not_true_eq_false, not_false_eq_true, jif0, jif1, jifb, ltT, ltF, leT, leF, eqT, eqF, jlt, jle, jeq, jlt0, jle0, jeq0, jge0, jgt0, jinB, jnat, clt, cle, ceq, cgt, cge, lI_add, lI_sub, lI_mul, jadd, jsub, jmul, jneg, jtol, b010, b011, pv_2t, Int.toNat_natCast, Option.some.injEq, exists_eq_left', if_true, if_false, N, h2, b1, b3, b4, js]
      exact no fun z => c2 (ez.mpr z.2.1)
  · refine vs_ok 2 ?_
    rw [show ((gRes 160).drop 0).take 2 = [.iload 1, .ifCond .le 12] from rfl]
    simp (disch := omega) only [vs_ifCond, vs_iload1, vs_nil, gv_0, gv_1, gv_2, gv_3, pv_0, pv_1, va_rf_s, Nat.reduceDiv, Nat.reduceMod, Nat.reduceAdd, Nat.reduceMul, Int.reduceToNat, true_and, and_true, and_self, cP_eq, cP_ne, cP_lt, cP_ge, cP_gt, cP_le, eL_i, eL_l, eL_r, eL_n, Option.toList_none, Option.toList_some, List.nil_append, List.cons_append, kkI, llI, nnI, rrI, jjI, kkJ, llJ, nnJ, rrJ, iiJ, zIIs, zJJs, nEF, nET, and_false, false_and, jmin, jmax, catS_n, catS_i, catS_r, catS_l, Nat.reduceLeDiff, j1eq1, n21, jt0, jt1, Bool.false_eq_true, Classical.not_not, true_or, or_true, false_or, or_false, true_imp_iff, false_imp_iff, not_true_eq_false, not_false_eq_true, jif0, jif1, jifb, ltT, ltF, leT, leF, eqT, eqF, jlt, jle, jeq, jlt0, jle0, jeq0, jge0, jgt0, jinB, jnat, clt, cle, ceq, cgt, cge, lI_add, lI_sub, lI_mul, jadd, jsub, jmul, jneg, jtol, b010, b011, pv_2t, Int.toNat_natCast, Option.some.injEq, exists_eq_left', if_true, if_false]
    exact no fun z => c1 z.1
