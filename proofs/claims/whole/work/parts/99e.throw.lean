/-! DiceRing: throwOne -/
/-- a good value, as wide as b -/
def gW (b : Int) (v : RowVal) : Prop := (-b ≤ v.1 ∧ v.1 ≤ v.2.1 ∧ v.2.1 ≤ b) ∧ (∀ m, 0 ≤ v.2.2.2 m) ∧ (∀ m, ¬ (v.1 ≤ m ∧ m ≤ v.2.1) → v.2.2.2 m = 0) ∧ v.2.2.1 = tS v.2.2.2 ∧ 1 ≤ v.2.2.1 ∧ v.2.2.1 ≤ 1000000000
theorem gV.w {v : RowVal} (h : gV v) : gW 200 v := ⟨h.1, h.2.1, h.2.2.1, h.2.2.2.2⟩
theorem tS_shiftW {f : Int → Int} {c : Int} (hf : spt f 200) (hc : -700 ≤ c ∧ c ≤ 700) : tS (fun m => f (m + c)) = tS f := by
  rw [tS_e, tS_e, sm_shift, sm_spt (b := 200) hf (by omega) (by omega) (by omega), sm_spt (b := 200) (lo := -1000) hf (by omega) (by omega) (by omega)]
theorem cv_totW {Wa Wb : Int → Int} (ha : spt Wa 600) (hb : spt Wb 200) : tS (cvW 0 Wa Wb) = tS Wa * tS Wb := by
  show tS (fun m => tS (fun i => Wa i * Wb (sg 0 i m))) = _
  rw [tS_ex, ← tS_mulc]
  refine pS_congr fun i h1 h2 => ?_
  show tS (fun m => Wa i * Wb (sg 0 i m)) = _
  rw [tS_cmul]
  by_cases c : -600 ≤ i ∧ i ≤ 600
  · refine congrArg (fun z => Wa i * z) ?_
    unfold sg
    simp only [if_true]
    exact tS_shiftW (c := -i) hb (by omega)
  · rw [ha i c, Int.zero_mul, Int.zero_mul]
theorem gW_ad {b : Int} {a c : RowVal} (hb : b ≤ 600) (ha : gW b a) (hc : gV c) (hok : a.2.2.1 * c.2.2.1 ≤ 1000000000) : gW (b + 200) (adV 0 a c) := by
  obtain ⟨al, ah, at0, aW⟩ := a
  obtain ⟨bl, bh, bt0, bW⟩ := c
  have sb := hc.spt
  obtain ⟨a1, a2, a3, a5, a6, a7⟩ := ha
  obtain ⟨b1, b2, b3, b4, b5, b6, b7⟩ := hc
  dsimp only at a1 a2 a3 a5 a6 a7 b1 b2 b3 b4 b5 b6 b7 sb hok
  have sa : spt aW 600 := fun m hm => a3 m (by omega)
  refine ⟨⟨?_, ?_, ?_⟩, cv_nn a2 b2, fun m hm => ?_, ?_, ?_, hok⟩
  · show -(b + 200) ≤ al + bl
    omega
  · show al + bl ≤ ah + bh
    omega
  · show ah + bh ≤ b + 200
    omega
  · refine pS_zero fun i h1 h2 => ?_
    show aW i * bW (m - i) = 0
    replace hm : ¬ (al + bl ≤ m ∧ m ≤ ah + bh) := hm
    by_cases c : al ≤ i ∧ i ≤ ah
    · rw [b3 (m - i) (by omega), Int.mul_zero]
    · rw [a3 i c, Int.zero_mul]
  · show at0 * bt0 = tS (cvW 0 aW bW)
    rw [cv_totW sa sb, a5, b5]
  · show 1 ≤ at0 * bt0
    have := Int.mul_le_mul a6 b6 (by omega) (by omega)
    omega
/-- v thrown n + 1 times, or none once the WAYS are TOO MUCH -/
def thrV (v : RowVal) : Nat → Option RowVal
  | 0 => some v
  | n + 1 => (thrV v n).bind fun w => if w.2.2.1 * v.2.2.1 ≤ 1000000000 then some (adV 0 w v) else none
theorem gW.i {b : Int} {v : RowVal} (hb : b ≤ 800) (h : gW b v) (m : Int) : i64 (v.2.2.2 m) := by
  obtain ⟨a1, a2, a3, a5, a6, a7⟩ := h
  have n0 := a2 m
  by_cases c : -1000 ≤ m ∧ m < 1000
  · have := tS_ge a2 c.1 c.2
    constructor <;> omega
  · rw [a3 m (by omega)]
    constructor <;> omega
def exR (h : Hp) (r : Nat) : Prop := ∃ v : RowVal, rowP h r 800 v
theorem t_throwOne {d : Nat} {h : Hp} {x sp o n k : Nat} {v : RowVal} {Q : Nat → Option Value → Hp → Prop} (hx : zK h x = 11 ∧ x < zN h) (h15 : zR h x 15 = some sp) (hn : exR h n) (hs : exR h sp) (ho : rowP h o 200 v) (hg : gV v) (a1 : apt n o) (a2 : apt sp o) (a3 : apt n sp) (a4 : apt sp n) (ax : apt n x ∧ apt sp x) (hk : 1 ≤ k ∧ k ≤ 4)
    (hq0 : thrV v (k - 1) = none → ∀ g, fr (fun q => rS n q ∨ rS sp q) h g → exR g n → exR g sp → Q 0 (some (.int (iI 0))) g)
    (hq1 : ∀ w, thrV v (k - 1) = some w → gW 800 w → ∀ g, fr (fun q => rS n q ∨ rS sp q) h g → rowP g n 800 w → exR g sp → Q 0 (some (.int (iI 1))) g) : PR (d + 3) m_D_throwOne [.ref x, .ref o, .int (iI (k : Int)), .ref n] h Q := by
  obtain ⟨v0, hn0⟩ := hn
  have g0 := hg.1
  show PW (d + 3) 150 0 [some (.ref x), some (.ref o), some (.int (iI (k : Int))), some (.ref n), none] [] h Q
  have lp : ∀ (f j : Nat) (g : Hp) (w : RowVal), f + j = k → 1 ≤ j → fr (fun q => rS n q ∨ rS sp q) h g → thrV v (j - 1) = some w → gW (200 * j) w → rowP g n 800 w → exR g sp → PW (d + 3) 150 5 [some (.ref x), some (.ref o), some (.int (iI (k : Int))), some (.ref n), some (.int (iI (j : Int)))] [] g Q := by
    intro f
    induction f with
    | zero =>
      intro j g w hj h1 fg hw gw rw' es
      have e : j = k := by omega
      subst e
      refine vs_ok 3 ?_
      rw [show ((gRes 150).drop 5).take 3 = [.iload 4, .iload 2, .if_icmp .ge 23] from rfl]
      simp (disch := omega) only [vs_if_icmp, vs_iload2, vs_iload4, vs_nil, gv_0, gv_1, gv_2, gv_3, pv_0, pv_1, va_rf_s, Nat.reduceDiv, Nat.reduceMod, Nat.reduceAdd, Nat.reduceMul, Int.reduceToNat, true_and, and_true, and_self, cP_eq, cP_ne, cP_lt, cP_ge, cP_gt, cP_le, eL_i, eL_l, eL_r, eL_n, Option.toList_none, Option.toList_some, List.nil_append, List.cons_append, kkI, llI, nnI, rrI, jjI, kkJ, llJ, nnJ, rrJ, iiJ, zIIs, zJJs, nEF, nET, and_false, false_and, jmin, jmax, catS_n, catS_i, catS_r, catS_l, Nat.reduceLeDiff, j1eq1, n21, jt0, jt1, Bool.false_eq_true, Classical.not_not, true_or, or_true, false_or, or_false, true_imp_iff, false_imp_iff, not_true_eq_false, not_false_eq_true, jif0, jif1, jifb, ltT, ltF, leT, leF, eqT, eqF, jlt, jle, jeq, jlt0, jle0, jeq0, jge0, jgt0, jinB, jnat, clt, cle, ceq, cgt, cge, lI_add, lI_sub, lI_mul, jadd, jsub, jmul, jneg, jtol, b010, b011, pv_2t, Int.toNat_natCast, Option.some.injEq, exists_eq_left', if_true, if_false]
      refine vs_ok 2 ?_
      rw [show ((gRes 150).drop 23).take 2 = [.iconst 1, .ireturn] from rfl]
      simp (disch := omega) only [vs_iconst, vs_ireturn, vs_nil, gv_0, gv_1, gv_2, gv_3, pv_0, pv_1, va_rf_s, Nat.reduceDiv, Nat.reduceMod, Nat.reduceAdd, Nat.reduceMul, Int.reduceToNat, true_and, and_true, and_self, cP_eq, cP_ne, cP_lt, cP_ge, cP_gt, cP_le, eL_i, eL_l, eL_r, eL_n, Option.toList_none, Option.toList_some, List.nil_append, List.cons_append, kkI, llI, nnI, rrI, jjI, kkJ, llJ, nnJ, rrJ, iiJ, zIIs, zJJs, nEF, nET, and_false, false_and, jmin, jmax, catS_n, catS_i, catS_r, catS_l, Nat.reduceLeDiff, j1eq1, n21, jt0, jt1, Bool.false_eq_true, Classical.not_not, true_or, or_true, false_or, or_false, true_imp_iff, false_imp_iff, not_true_eq_false, not_false_eq_true, jif0, jif1, jifb, ltT, ltF, leT, leF, eqT, eqF, jlt, jle, jeq, jlt0, jle0, jeq0, jge0, jgt0, jinB, jnat, clt, cle, ceq, cgt, cge, lI_add, lI_sub, lI_mul, jadd, jsub, jmul, jneg, jtol, b010, b011, pv_2t, Int.toNat_natCast, Option.some.injEq, exists_eq_left', if_true, if_false, show gRc 150 = 2 from rfl]
      exact hq1 w hw ⟨by have := gw.1; omega, gw.2⟩ g fg rw' es
    | succ f ih =>
      intro j g w hj h1 fg hw gw rw' es
      have hx1 : zK g x = 11 := by rw [fg.1]; exact hx.1
      have hx2 : x < zN g := by rw [fg.2.2.1]; exact hx.2
      have h15g : zR g x 15 = some sp := by rw [fg.2.2.2.2.2.2.2 x (by omega)]; exact h15
      have hog : rowP g o 200 v := ho.keep fg (by omega) (by omega)
      obtain ⟨vs, hsg⟩ := id es
      have tv := hg.2.2.2.2.2
      have tw := gw.2.2.2.2
      have w1 := gw.1
      have ok : thrV v j = if w.2.2.1 * v.2.2.1 ≤ 1000000000 then some (adV 0 w v) else none := by
        have e : j = (j - 1) + 1 := by omega
        rw [e]
        show (thrV v (j - 1)).bind _ = _
        rw [hw]
        rfl
      refine vs_ok 3 ?_
      rw [show ((gRes 150).drop 5).take 3 = [.iload 4, .iload 2, .if_icmp .ge 23] from rfl]
      simp (disch := omega) only [vs_if_icmp, vs_iload2, vs_iload4, vs_nil, gv_0, gv_1, gv_2, gv_3, pv_0, pv_1, va_rf_s, Nat.reduceDiv, Nat.reduceMod, Nat.reduceAdd, Nat.reduceMul, Int.reduceToNat, true_and, and_true, and_self, cP_eq, cP_ne, cP_lt, cP_ge, cP_gt, cP_le, eL_i, eL_l, eL_r, eL_n, Option.toList_none, Option.toList_some, List.nil_append, List.cons_append, kkI, llI, nnI, rrI, jjI, kkJ, llJ, nnJ, rrJ, iiJ, zIIs, zJJs, nEF, nET, and_false, false_and, jmin, jmax, catS_n, catS_i, catS_r, catS_l, Nat.reduceLeDiff, j1eq1, n21, jt0, jt1, Bool.false_eq_true, Classical.not_not, true_or, or_true, false_or, or_false, true_imp_iff, false_imp_iff, not_true_eq_false, not_false_eq_true, jif0, jif1, jifb, ltT, ltF, leT, leF, eqT, eqF, jlt, jle, jeq, jlt0, jle0, jeq0, jge0, jgt0, jinB, jnat, clt, cle, ceq, cgt, cge, lI_add, lI_sub, lI_mul, jadd, jsub, jmul, jneg, jtol, b010, b011, pv_2t, Int.toNat_natCast, Option.some.injEq, exists_eq_left', if_true, if_false]
      refine vs_ok 5 ?_
      rw [show ((gRes 150).drop 8).take 5 = [.aload 0, .getfield 11152, .aload 3, .aload 1, .iconst 0] from rfl]
      simp (disch := omega) only [vs_iconst, vs_getfield, vs_aload0, vs_aload1, vs_aload3, vs_nil, gv_0, gv_1, gv_2, gv_3, pv_0, pv_1, va_rf_s, Nat.reduceDiv, Nat.reduceMod, Nat.reduceAdd, Nat.reduceMul, Int.reduceToNat, true_and, and_true, and_self, cP_eq, cP_ne, cP_lt, cP_ge, cP_gt, cP_le, eL_i, eL_l, eL_r, eL_n, Option.toList_none, Option.toList_some, List.nil_append, List.cons_append, kkI, llI, nnI, rrI, jjI, kkJ, llJ, nnJ, rrJ, iiJ, zIIs, zJJs, nEF, nET, and_false, false_and, jmin, jmax, catS_n, catS_i, catS_r, catS_l, Nat.reduceLeDiff, j1eq1, n21, jt0, jt1, Bool.false_eq_true, Classical.not_not, true_or, or_true, false_or, or_false, true_imp_iff, false_imp_iff, not_true_eq_false, not_false_eq_true, jif0, jif1, jifb, ltT, ltF, leT, leF, eqT, eqF, jlt, jle, jeq, jlt0, jle0, jeq0, jge0, jgt0, jinB, jnat, clt, cle, ceq, cgt, cge, lI_add, lI_sub, lI_mul, jadd, jsub, jmul, jneg, jtol, b010, b011, pv_2t, Int.toNat_natCast, Option.some.injEq, exists_eq_left', if_true, if_false, hx1, hx2, h15g]
      refine PW.iv rfl rfl rfl hsg.1.1 hsg.1.2.1 (le_b rfl) (le_b rfl) ?_
      refine t_takeSum (d := d) (mi := Int32.ofInt 0) hsg rw' hog a4 a2 (Or.inl rfl) (by omega) (by omega) (gw.i (by omega)) (fun c => ⟨rfl, ⟨rfl, rfl⟩, ?_⟩) fun c g2 f2 gr => ⟨rfl, ⟨f2.2.2.1, rfl⟩, ?_⟩
      · rw [if_pos (show Int32.ofInt 0 = 0 from rfl), if_pos (show Int32.ofInt 0 = 0 from rfl)] at c
        rw [if_neg (by omega)] at ok
        refine vs_ok 1 ?_
        rw [show ((gRes 150).drop 14).take 1 = [.ifCond .ne 17] from rfl]
        simp (disch := omega) only [vs_ifCond, vs_nil, gv_0, gv_1, gv_2, gv_3, pv_0, pv_1, va_rf_s, Nat.reduceDiv, Nat.reduceMod, Nat.reduceAdd, Nat.reduceMul, Int.reduceToNat, true_and, and_true, and_self, cP_eq, cP_ne, cP_lt, cP_ge, cP_gt, cP_le, eL_i, eL_l, eL_r, eL_n, Option.toList_none, Option.toList_some, List.nil_append, List.cons_append, kkI, llI, nnI, rrI, jjI, kkJ, llJ, nnJ, rrJ, iiJ, zIIs, zJJs, nEF, nET, and_false, false_and, jmin, jmax, catS_n, catS_i, catS_r, catS_l, Nat.reduceLeDiff, j1eq1, n21, jt0, jt1, Bool.false_eq_true, Classical.not_not, true_or, or_true, false_or, or_false, true_imp_iff, false_imp_iff, not_true_eq_false, not_false_eq_true, jif0, jif1, jifb, ltT, ltF, leT, leF, eqT, eqF, jlt, jle, jeq, jlt0, jle0, jeq0, jge0, jgt0, jinB, jnat, clt, cle, ceq, cgt, cge, lI_add, lI_sub, lI_mul, jadd, jsub, jmul, jneg, jtol, b010, b011, pv_2t, Int.toNat_natCast, Option.some.injEq, exists_eq_left', if_true, if_false]
        refine vs_ok 2 ?_
        rw [show ((gRes 150).drop 15).take 2 = [.iconst 0, .ireturn] from rfl]
        simp (disch := omega) only [vs_iconst, vs_ireturn, vs_nil, gv_0, gv_1, gv_2, gv_3, pv_0, pv_1, va_rf_s, Nat.reduceDiv, Nat.reduceMod, Nat.reduceAdd, Nat.reduceMul, Int.reduceToNat, true_and, and_true, and_self, cP_eq, cP_ne, cP_lt, cP_ge, cP_gt, cP_le, eL_i, eL_l, eL_r, eL_n, Option.toList_none, Option.toList_some, List.nil_append, List.cons_append, kkI, llI, nnI, rrI, jjI, kkJ, llJ, nnJ, rrJ, iiJ, zIIs, zJJs, nEF, nET, and_false, false_and, jmin, jmax, catS_n, catS_i, catS_r, catS_l, Nat.reduceLeDiff, j1eq1, n21, jt0, jt1, Bool.false_eq_true, Classical.not_not, true_or, or_true, false_or, or_false, true_imp_iff, false_imp_iff, not_true_eq_false, not_false_eq_true, jif0, jif1, jifb, ltT, ltF, leT, leF, eqT, eqF, jlt, jle, jeq, jlt0, jle0, jeq0, jge0, jgt0, jinB, jnat, clt, cle, ceq, cgt, cge, lI_add, lI_sub, lI_mul, jadd, jsub, jmul, jneg, jtol, b010, b011, pv_2t, Int.toNat_natCast, Option.some.injEq, exists_eq_left', if_true, if_false, show gRc 150 = 2 from rfl]
        refine hq0 ?_ g fg ⟨_, rw'⟩ es
        have up : ∀ m, j ≤ m → thrV v m = none := fun m => by
          induction m with
          | zero => intro z; rw [show j = 0 by omega] at ok; exact ok
          | succ m ih2 =>
            intro z
            by_cases c2 : j = m + 1
            · rw [← c2]; exact ok
            · show (thrV v m).bind _ = _
              rw [ih2 (by omega)]
              rfl
        exact up _ (by omega)
      · rw [if_pos (show Int32.ofInt 0 = 0 from rfl), if_pos (show Int32.ofInt 0 = 0 from rfl)] at c
        rw [if_pos c.2.2] at ok
        have gr' : rowP g2 sp 800 (adV 0 w v) := gr
        have hx3 : zK g2 x = 11 := by rw [f2.1]; exact hx1
        have hx4 : x < zN g2 := by rw [f2.2.2.1]; exact hx2
        have h15h : zR g2 x 15 = some sp := by rw [f2.2.2.2.2.2.2.2 x (by omega)]; exact h15g
        have rn2 : rowP g2 n 800 w := rw'.keep f2 (by omega) (by omega)
        refine vs_ok 1 ?_
        rw [show ((gRes 150).drop 14).take 1 = [.ifCond .ne 17] from rfl]
        simp (disch := omega) only [vs_ifCond, vs_nil, gv_0, gv_1, gv_2, gv_3, pv_0, pv_1, va_rf_s, Nat.reduceDiv, Nat.reduceMod, Nat.reduceAdd, Nat.reduceMul, Int.reduceToNat, true_and, and_true, and_self, cP_eq, cP_ne, cP_lt, cP_ge, cP_gt, cP_le, eL_i, eL_l, eL_r, eL_n, Option.toList_none, Option.toList_some, List.nil_append, List.cons_append, kkI, llI, nnI, rrI, jjI, kkJ, llJ, nnJ, rrJ, iiJ, zIIs, zJJs, nEF, nET, and_false, false_and, jmin, jmax, catS_n, catS_i, catS_r, catS_l, Nat.reduceLeDiff, j1eq1, n21, jt0, jt1, Bool.false_eq_true, Classical.not_not, true_or, or_true, false_or, or_false, true_imp_iff, false_imp_iff, not_true_eq_false, not_false_eq_true, jif0, jif1, jifb, ltT, ltF, leT, leF, eqT, eqF, jlt, jle, jeq, jlt0, jle0, jeq0, jge0, jgt0, jinB, jnat, clt, cle, ceq, cgt, cge, lI_add, lI_sub, lI_mul, jadd, jsub, jmul, jneg, jtol, b010, b011, pv_2t, Int.toNat_natCast, Option.some.injEq, exists_eq_left', if_true, if_false, show ¬ (1 : Int32) = 0 by decide]
        refine vs_ok 3 ?_
        rw [show ((gRes 150).drop 17).take 3 = [.aload 3, .aload 0, .getfield 11152] from rfl]
        simp (disch := omega) only [vs_getfield, vs_aload0, vs_aload3, vs_nil, gv_0, gv_1, gv_2, gv_3, pv_0, pv_1, va_rf_s, Nat.reduceDiv, Nat.reduceMod, Nat.reduceAdd, Nat.reduceMul, Int.reduceToNat, true_and, and_true, and_self, cP_eq, cP_ne, cP_lt, cP_ge, cP_gt, cP_le, eL_i, eL_l, eL_r, eL_n, Option.toList_none, Option.toList_some, List.nil_append, List.cons_append, kkI, llI, nnI, rrI, jjI, kkJ, llJ, nnJ, rrJ, iiJ, zIIs, zJJs, nEF, nET, and_false, false_and, jmin, jmax, catS_n, catS_i, catS_r, catS_l, Nat.reduceLeDiff, j1eq1, n21, jt0, jt1, Bool.false_eq_true, Classical.not_not, true_or, or_true, false_or, or_false, true_imp_iff, false_imp_iff, not_true_eq_false, not_false_eq_true, jif0, jif1, jifb, ltT, ltF, leT, leF, eqT, eqF, jlt, jle, jeq, jlt0, jle0, jeq0, jge0, jgt0, jinB, jnat, clt, cle, ceq, cgt, cge, lI_add, lI_sub, lI_mul, jadd, jsub, jmul, jneg, jtol, b010, b011, pv_2t, Int.toNat_natCast, Option.some.injEq, exists_eq_left', if_true, if_false, hx3, hx4, h15h]
        refine PW.iv rfl rfl rfl rn2.1.1 rn2.1.2.1 (le_b rfl) (le_b rfl) ?_
        refine t_copy (d := d) rn2 gr a3 ⟨c.1, c.2.1⟩ fun g3 f3 r3 => ⟨rfl, ⟨f3.2.2.1, rfl⟩, ?_⟩
        refine vs_ok 2 ?_
        rw [show ((gRes 150).drop 21).take 2 = [.iinc 4 1, .goto 5] from rfl]
        simp (disch := omega) only [vs_goto, vs_iinc4n, vs_iinc4i, vs_iinc4r, vs_iinc4l, vs_nil, gv_0, gv_1, gv_2, gv_3, pv_0, pv_1, va_rf_s, Nat.reduceDiv, Nat.reduceMod, Nat.reduceAdd, Nat.reduceMul, Int.reduceToNat, true_and, and_true, and_self, cP_eq, cP_ne, cP_lt, cP_ge, cP_gt, cP_le, eL_i, eL_l, eL_r, eL_n, Option.toList_none, Option.toList_some, List.nil_append, List.cons_append, kkI, llI, nnI, rrI, jjI, kkJ, llJ, nnJ, rrJ, iiJ, zIIs, zJJs, nEF, nET, and_false, false_and, jmin, jmax, catS_n, catS_i, catS_r, catS_l, Nat.reduceLeDiff, j1eq1, n21, jt0, jt1, Bool.false_eq_true, Classical.not_not, true_or, or_true, false_or, or_false, true_imp_iff, false_imp_iff, not_true_eq_false, not_false_eq_true, jif0, jif1, jifb, ltT, ltF, leT, leF, eqT, eqF, jlt, jle, jeq, jlt0, jle0, jeq0, jge0, jgt0, jinB, jnat, clt, cle, ceq, cgt, cge, lI_add, lI_sub, lI_mul, jadd, jsub, jmul, jneg, jtol, b010, b011, pv_2t, Int.toNat_natCast, Option.some.injEq, exists_eq_left', if_true, if_false]
        refine ih (j + 1) g3 (adV 0 w v) (by omega) (by omega) ((fg.tr (f2.wk fun q z => Or.inr z)).tr (f3.wk fun q z => Or.inl z)) ok ?_ r3 ⟨_, gr'.keep f3 (by omega) (by omega)⟩
        have G := gW_ad (by omega) gw hg c.2.2
        rw [show 200 * ((j + 1 : Nat) : Int) = 200 * (j : Int) + 200 by omega]
        exact G
  refine vs_ok 2 ?_
  rw [show ((gRes 150).drop 0).take 2 = [.aload 3, .aload 1] from rfl]
  simp (disch := omega) only [vs_aload1, vs_aload3, vs_nil, gv_0, gv_1, gv_2, gv_3, pv_0, pv_1, va_rf_s, Nat.reduceDiv, Nat.reduceMod, Nat.reduceAdd, Nat.reduceMul, Int.reduceToNat, true_and, and_true, and_self, cP_eq, cP_ne, cP_lt, cP_ge, cP_gt, cP_le, eL_i, eL_l, eL_r, eL_n, Option.toList_none, Option.toList_some, List.nil_append, List.cons_append, kkI, llI, nnI, rrI, jjI, kkJ, llJ, nnJ, rrJ, iiJ, zIIs, zJJs, nEF, nET, and_false, false_and, jmin, jmax, catS_n, catS_i, catS_r, catS_l, Nat.reduceLeDiff, j1eq1, n21, jt0, jt1, Bool.false_eq_true, Classical.not_not, true_or, or_true, false_or, or_false, true_imp_iff, false_imp_iff, not_true_eq_false, not_false_eq_true, jif0, jif1, jifb, ltT, ltF, leT, leF, eqT, eqF, jlt, jle, jeq, jlt0, jle0, jeq0, jge0, jgt0, jinB, jnat, clt, cle, ceq, cgt, cge, lI_add, lI_sub, lI_mul, jadd, jsub, jmul, jneg, jtol, b010, b011, pv_2t, Int.toNat_natCast, Option.some.injEq, exists_eq_left', if_true, if_false]
  refine PW.iv rfl rfl rfl hn0.1.1 hn0.1.2.1 (le_b rfl) (le_b rfl) ?_
  refine t_copy hn0 ho a1 (by omega) fun g1 f1 r1 => ⟨rfl, ⟨f1.2.2.1, rfl⟩, ?_⟩
  refine vs_ok 2 ?_
  rw [show ((gRes 150).drop 3).take 2 = [.iconst 1, .istore 4] from rfl]
  simp (disch := omega) only [vs_iconst, vs_istore4n, vs_istore4i, vs_istore4r, vs_istore4l, vs_nil, gv_0, gv_1, gv_2, gv_3, pv_0, pv_1, va_rf_s, Nat.reduceDiv, Nat.reduceMod, Nat.reduceAdd, Nat.reduceMul, Int.reduceToNat, true_and, and_true, and_self, cP_eq, cP_ne, cP_lt, cP_ge, cP_gt, cP_le, eL_i, eL_l, eL_r, eL_n, Option.toList_none, Option.toList_some, List.nil_append, List.cons_append, kkI, llI, nnI, rrI, jjI, kkJ, llJ, nnJ, rrJ, iiJ, zIIs, zJJs, nEF, nET, and_false, false_and, jmin, jmax, catS_n, catS_i, catS_r, catS_l, Nat.reduceLeDiff, j1eq1, n21, jt0, jt1, Bool.false_eq_true, Classical.not_not, true_or, or_true, false_or, or_false, true_imp_iff, false_imp_iff, not_true_eq_false, not_false_eq_true, jif0, jif1, jifb, ltT, ltF, leT, leF, eqT, eqF, jlt, jle, jeq, jlt0, jle0, jeq0, jge0, jgt0, jinB, jnat, clt, cle, ceq, cgt, cge, lI_add, lI_sub, lI_mul, jadd, jsub, jmul, jneg, jtol, b010, b011, pv_2t, Int.toNat_natCast, Option.some.injEq, exists_eq_left', if_true, if_false]
  refine lp (k - 1) 1 g1 v (by omega) (by omega) (f1.wk fun q z => Or.inl z) rfl hg.w r1 ?_
  obtain ⟨vs, hs0⟩ := hs
  exact ⟨vs, hs0.keep f1 (by omega) (by omega)⟩
