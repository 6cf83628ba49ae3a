/-! the Model: others, from the two dice to all pairs kept -/
abbrev KsT : Type := Nat × Nat × (Nat → Nat → Nat) × (Nat → Nat → Nat)
def fdK (p q : Nat) (K : KsT) (Z : Pr2) : KsT := if tnP p q Z.1 Z.2 then (if psF Z.1 K.2.2.1 K.2.1 = 100 then (K.1 + 1, K.2) else (K.1 + 1, min (K.2.1 + 1) 100, shK K.2.2.1 (psF Z.1 K.2.2.1 K.2.1) (min (K.2.1 + 1) 100) Z.1, shK K.2.2.2 (psF Z.1 K.2.2.1 K.2.1) (min (K.2.1 + 1) 100) Z.2)) else K
def ksL (p q : Nat) (L : List Pr2) : KsT := L.foldl (fdK p q) (0, 0, fun _ _ => 0, fun _ _ => 0)
theorem ksL_app {p q : Nat} {L : List Pr2} {Z : Pr2} : ksL p q (L ++ [Z]) = fdK p q (ksL p q L) Z := by
  unfold ksL
  rw [List.foldl_append]
  rfl
abbrev ksK (h : Hp) (m : Nat) (K : KsT) : Prop := ksM h m K.1 K.2.1 K.2.2.1 K.2.2.2
/-- how often two FACES of the dice make s -/
abbrev tgT (f g : Nat → Int) (s i j : Nat) : Nat := if f i + g j = (s : Int) then 1 else 0
abbrev tgR (f g : Nat → Int) (nb s i : Nat) : Nat := smN (tgT f g s i) nb
def tgN (f g : Nat → Int) (na nb s : Nat) : Nat := smN (tgR f g nb s) na
def oLn (tg : Nat → Nat) (p q x low high : Nat) : Nat → Nat → List Pr2
  | 0, _ => []
  | k + 1, n => (if tg low % n = 0 ∧ n ≤ p ∧ tg low / n ≤ q then mdL tg n p q x (low - x) high (high - low) (sgN x n) (sgN (low - x) (tg low / n)) else []) ++ oLn tg p q x low high k (n + 1)
def oLx (tg : Nat → Nat) (p q l low high : Nat) : Nat → Nat → List Pr2
  | 0, _ => []
  | k + 1, x => if x + l ≤ low then (if low - x ≤ 60 then oLn tg p q x low high (tg low) 1 else []) ++ oLx tg p q l low high k (x + 1) else []
abbrev oLL (tg : Nat → Nat) (p q l low high : Nat) : List Pr2 := oLx tg p q l low high (61 - l) l
theorem ksK.tc {g g2 : Hp} {m : Nat} {K : KsT} (j : ksK g m K) (c : tcC g g2 m) : ksK g2 m K := by
  obtain ⟨a, b, c1, d⟩ := j
  have r := c.1.1.2.2.2.2.2.1
  refine ⟨by rw [c.2 39 (by omega) (by omega)]; exact a, b, by rw [c.2 40 (by omega) (by omega)]; exact c1, fun k hk v hv => ?_⟩
  rw [r (m + 25) (by unfold tcS; omega), r (m + 26) (by unfold tcS; omega)]
  exact d k hk v hv
theorem t_M_tried {D : Nat} {g : Hp} {m P q : Nat} {L : List Pr2} {X Y : Nat → Nat} {Q' : Nat → Option Value → Hp → Prop} (hP : P ≤ 64) (hQ : q ≤ 64) (x1 : smN X 61 = P) (y1 : smN Y 61 = q) (hg : mO g m) (g41 : zI g m 41 = iI P) (g42 : zI g m 42 = iI q) (ty : tyS g m X Y) (j : ksK g m (ksL P q L)) (hq : ∀ g2, fi (fun z => z = m ∨ z = m + 25 ∨ z = m + 26) g g2 → (∀ i, i ≠ 39 → i ≠ 40 → zI g2 m i = zI g m i) → ksK g2 m (ksL P q (L ++ [(X, Y)])) → Q' 0 none g2) : PR (D + 1) m_M_found [.ref m] g Q' := by
  refine t_M_found hg g41 g42 ⟨hP, hQ⟩ j (fun v hv => ⟨?_, ty.2.2.1 v (by omega)⟩) (fun v hv => ⟨?_, ty.2.2.2 v (by omega)⟩) (fun no => ?_) fun yes g2 f2 e2 k2 => ?_
  · have := sm_one (X := X) 61 v hv
    omega
  · have := sm_one (X := Y) 61 v hv
    omega
  · refine hq g fi.rf (fun _ _ _ => rfl) ?_
    rw [ksL_app]
    unfold fdK
    rw [if_neg no]
    exact j
  · refine hq g2 f2 e2 ?_
    rw [ksL_app]
    unfold fdK
    rw [if_pos yes]
    split at k2 <;> rename_i c
    · rw [if_pos c]
      exact k2
    · rw [if_neg c]
      exact k2
/-- what the search may change -/
abbrev ocC (h g : Hp) (m : Nat) : Prop := fi (fun z => tcS m z ∨ z = m + 25 ∨ z = m + 26) h g ∧ ∀ i, i ≠ 39 → i ≠ 40 → i ≠ 43 → i ≠ 44 → zI g m i = zI h m i
theorem t_M_search {D : Nat} {h : Hp} {m p q l low high : Nat} {a b : Int} {tg : Nat → Nat} {Q : Nat → Option Value → Hp → Prop} (hm : mO h m) (hp : p ≤ 64) (hq : q ≤ 64) (hl : l ≤ 60) (hlh : low ≤ high) (hhi : high ≤ 120) (htg : ∀ s, s < 130 → tg s ≤ 1000 ∧ zI h (m + 21) s = iI (tg s)) (h1 : 1 ≤ tg low) (h41 : zI h m 41 = iI p) (h42 : zI h m 42 = iI q) (j0 : ksK h m (ksL p q []))
    (K : ∀ g, ocC h g m → ksK g m (ksL p q (oLL tg p q l low high)) → Q 0 (some (.int (iI (ksL p q (oLL tg p q l low high)).1))) g) (l9 : Option Value) : PW (D + 3) 242 126 [some (.ref m), some (.int (iI a)), some (.int (iI b)), some (.int (iI p)), some (.int (iI q)), some (.int (iI l)), some (.int (iI low)), some (.int (iI high)), l9, none] [] h Q := by
  have M := hm.k
  have out : ∀ (g : Hp) (l8 l9 : Option Value), ocC h g m → ksK g m (ksL p q (oLL tg p q l low high)) → PW (D + 3) 242 178 [some (.ref m), some (.int (iI a)), some (.int (iI b)), some (.int (iI p)), some (.int (iI q)), some (.int (iI l)), some (.int (iI low)), some (.int (iI high)), l8, l9] [] g Q := fun g l8 l9 c k => by
    have M := (hm.fi c.1).k
    have k40 := k.2.2.1
    refine vs_ok 3 ?_
    rw [show ((gRes 242).drop 178).take 3 = [.aload 0, .getfield 12400, .ireturn] from rfl]
    simp (disch := omega) only [vs_getfield, vs_ireturn, vs_aload0, vs_nil, gv_0, gv_1, gv_2, gv_3, pv_0, pv_1, va_rf_s, Nat.reduceDiv, Nat.reduceMod, Nat.reduceAdd, Nat.reduceMul, Int.reduceToNat, true_and, and_true, and_self, cP_eq, cP_ne, cP_lt, cP_ge, cP_gt, cP_le, eL_i, eL_l, eL_r, eL_n, Option.toList_none, Option.toList_some, List.nil_append, List.cons_append, kkI, llI, nnI, rrI, jjI, kkJ, llJ, nnJ, rrJ, iiJ, zIIs, zJJs, nEF, nET, and_false, false_and, jmin, jmax, catS_n, catS_i, catS_r, catS_l, Nat.reduceLeDiff, j1eq1, n21, jt0, jt1, Bool.false_eq_true, Classical.not_not, true_or, or_true, false_or, or_false, true_imp_iff, false_imp_iff, not_true_eq_false, not_false_eq_true, jif0, jif1, jifb, ltT, ltF, leT, leF, eqT, eqF, jlt, jle, jeq, jlt0, jle0, jeq0, jge0, jgt0, jinB, jnat, clt, cle, ceq, cgt, cge, lI_add, lI_sub, lI_mul, jadd, jsub, jmul, jneg, jtol, b010, b011, pv_2t, Int.toNat_natCast, Option.some.injEq, exists_eq_left', if_true, if_false, M, k40, show gRc 242 = 1 from rfl]
    exact K g c k
  -- the n of one x
  have lpn : ∀ (x y : Nat), x + y = low → x ≤ 60 → y ≤ 60 → ∀ (j n : Nat), j + n = tg low + 1 → 1 ≤ n → ∀ (L : List Pr2) (g : Hp), ocC h g m → ksK g m (ksL p q L) → (∀ (g : Hp) (l9 : Option Value), ocC h g m → ksK g m (ksL p q (L ++ oLn tg p q x low high j n)) → PW (D + 3) 242 176 [some (.ref m), some (.int (iI a)), some (.int (iI b)), some (.int (iI p)), some (.int (iI q)), some (.int (iI l)), some (.int (iI low)), some (.int (iI high)), some (.int (iI x)), l9] [] g Q) → PW (D + 3) 242 144 [some (.ref m), some (.int (iI a)), some (.int (iI b)), some (.int (iI p)), some (.int (iI q)), some (.int (iI l)), some (.int (iI low)), some (.int (iI high)), some (.int (iI x)), some (.int (iI n))] [] g Q := by
    intro x y hxy hx hy j
    induction j with
    | zero =>
      intro n hn n1 L g c k K2
      have tl := htg low (by omega)
      have hg := hm.fi c.1
      have M := hg.k
      have A := hg.target
      have ts : zI g (m + 21) low = iI (tg low) := by rw [c.1.1.2.2.2.2.2.1 (m + 21) (by unfold tcS; omega)]; exact tl.2
      refine vs_ok 6 ?_
      rw [show ((gRes 242).drop 144).take 6 = [.iload 9, .aload 0, .getfield 12332, .iload 6, .iaload, .if_icmp .gt 176] from rfl]
      simp (disch := omega) only [vs_if_icmp, vs_getfield, vs_iaload, vs_aload0, vs_iload6, vs_iload9, vs_nil, gv_0, gv_1, gv_2, gv_3, pv_0, pv_1, va_rf_s, Nat.reduceDiv, Nat.reduceMod, Nat.reduceAdd, Nat.reduceMul, Int.reduceToNat, true_and, and_true, and_self, cP_eq, cP_ne, cP_lt, cP_ge, cP_gt, cP_le, eL_i, eL_l, eL_r, eL_n, Option.toList_none, Option.toList_some, List.nil_append, List.cons_append, kkI, llI, nnI, rrI, jjI, kkJ, llJ, nnJ, rrJ, iiJ, zIIs, zJJs, nEF, nET, and_false, false_and, jmin, jmax, catS_n, catS_i, catS_r, catS_l, Nat.reduceLeDiff, j1eq1, n21, jt0, jt1, Bool.false_eq_true, Classical.not_not, true_or, or_true, false_or, or_false, true_imp_iff, false_imp_iff, not_true_eq_false, not_false_eq_true, jif0, jif1, jifb, ltT, ltF, leT, leF, eqT, eqF, jlt, jle, jeq, jlt0, jle0, jeq0, jge0, jgt0, jinB, jnat, clt, cle, ceq, cgt, cge, lI_add, lI_sub, lI_mul, jadd, jsub, jmul, jneg, jtol, b010, b011, pv_2t, Int.toNat_natCast, Option.some.injEq, exists_eq_left', if_true, if_false, M, A, ts]
      refine K2 g _ c ?_
      show ksK g m (ksL p q (L ++ []))
      rw [List.append_nil]
      exact k
    | succ j ih =>
      intro n hn n1 L g c k K2
      have tl := htg low (by omega)
      have hg := hm.fi c.1
      have M := hg.k
      have A := hg.target
      have ts : zI g (m + 21) low = iI (tg low) := by rw [c.1.1.2.2.2.2.2.1 (m + 21) (by unfold tcS; omega)]; exact tl.2
      have mn := jmN (tg low) n (by omega) (by omega) (by omega)
      have dn := jdN (tg low) n (by omega) (by omega) (by omega)
      have dl : tg low / n ≤ tg low := Nat.div_le_self _ _
      have eo : oLn tg p q x low high (j + 1) n = (if tg low % n = 0 ∧ n ≤ p ∧ tg low / n ≤ q then mdL tg n p q x y high (high - low) (sgN x n) (sgN y (tg low / n)) else []) ++ oLn tg p q x low high j (n + 1) := by
        rw [show y = low - x by omega]
        rfl
      rw [eo] at K2
      have p174 : ∀ (g2 : Hp), ocC h g2 m → ksK g2 m (ksL p q (L ++ (if tg low % n = 0 ∧ n ≤ p ∧ tg low / n ≤ q then mdL tg n p q x y high (high - low) (sgN x n) (sgN y (tg low / n)) else []))) → PW (D + 3) 242 174 [some (.ref m), some (.int (iI a)), some (.int (iI b)), some (.int (iI p)), some (.int (iI q)), some (.int (iI l)), some (.int (iI low)), some (.int (iI high)), some (.int (iI x)), some (.int (iI n))] [] g2 Q := fun g2 c2 k2 => by
        refine vs_ok 2 ?_
        rw [show ((gRes 242).drop 174).take 2 = [.iinc 9 1, .goto 144] from rfl]
        simp (disch := omega) only [vs_goto, vs_iinc9n, vs_iinc9i, vs_iinc9r, vs_iinc9l, vs_nil, gv_0, gv_1, gv_2, gv_3, pv_0, pv_1, va_rf_s, Nat.reduceDiv, Nat.reduceMod, Nat.reduceAdd, Nat.reduceMul, Int.reduceToNat, true_and, and_true, and_self, cP_eq, cP_ne, cP_lt, cP_ge, cP_gt, cP_le, eL_i, eL_l, eL_r, eL_n, Option.toList_none, Option.toList_some, List.nil_append, List.cons_append, kkI, llI, nnI, rrI, jjI, kkJ, llJ, nnJ, rrJ, iiJ, zIIs, zJJs, nEF, nET, and_false, false_and, jmin, jmax, catS_n, catS_i, catS_r, catS_l, Nat.reduceLeDiff, j1eq1, n21, jt0, jt1, Bool.false_eq_true, Classical.not_not, true_or, or_true, false_or, or_false, true_imp_iff, false_imp_iff, not_true_eq_false, not_false_eq_true, jif0, jif1, jifb, ltT, ltF, leT, leF, eqT, eqF, jlt, jle, jeq, jlt0, jle0, jeq0, jge0, jgt0, jinB, jnat, clt, cle, ceq, cgt, cge, lI_add, lI_sub, lI_mul, jadd, jsub, jmul, jneg, jtol, b010, b011, pv_2t, Int.toNat_natCast, Option.some.injEq, exists_eq_left', if_true, if_false]
        refine ih (n + 1) (by omega) (by omega) _ g2 c2 k2 fun g l9 c k => K2 g l9 c ?_
        rw [← List.append_assoc]
        exact k
      have no : ¬ (tg low % n = 0 ∧ n ≤ p ∧ tg low / n ≤ q) → PW (D + 3) 242 174 [some (.ref m), some (.int (iI a)), some (.int (iI b)), some (.int (iI p)), some (.int (iI q)), some (.int (iI l)), some (.int (iI low)), some (.int (iI high)), some (.int (iI x)), some (.int (iI n))] [] g Q := fun z => by
        refine p174 g c ?_
        rw [if_neg z, List.append_nil]
        exact k
      refine vs_ok 6 ?_
      rw [show ((gRes 242).drop 144).take 6 = [.iload 9, .aload 0, .getfield 12332, .iload 6, .iaload, .if_icmp .gt 176] from rfl]
      simp (disch := omega) only [vs_if_icmp, vs_getfield, vs_iaload, vs_aload0, vs_iload6, vs_iload9, vs_nil, gv_0, gv_1, gv_2, gv_3, pv_0, pv_1, va_rf_s, Nat.reduceDiv, Nat.reduceMod, Nat.reduceAdd, Nat.reduceMul, Int.reduceToNat, true_and, and_true, and_self, cP_eq, cP_ne, cP_lt, cP_ge, cP_gt, cP_le, eL_i, eL_l, eL_r, eL_n, Option.toList_none, Option.toList_some, List.nil_append, List.cons_append, kkI, llI, nnI, rrI, jjI, kkJ, llJ, nnJ, rrJ, iiJ, zIIs, zJJs, nEF, nET, and_false, false_and, jmin, jmax, catS_n, catS_i, catS_r, catS_l, Nat.reduceLeDiff, j1eq1, n21, jt0, jt1, Bool.false_eq_true, Classical.not_not, true_or, or_true, false_or, or_false, true_imp_iff, false_imp_iff, not_true_eq_false, not_false_eq_true, jif0, jif1, jifb, ltT, ltF, leT, leF, eqT, eqF, jlt, jle, jeq, jlt0, jle0, jeq0, jge0, jgt0, jinB, jnat, clt, cle, ceq, cgt, cge, lI_add, lI_sub, lI_mul, jadd, jsub, jmul, jneg, jtol, b010, b011, pv_2t, Int.toNat_natCast, Option.some.injEq, exists_eq_left', if_true, if_false, M, A, ts]
      by_cases c1 : tg low % n = 0
      · refine vs_ok 7 ?_
        rw [show ((gRes 242).drop 150).take 7 = [.aload 0, .getfield 12332, .iload 6, .iaload, .iload 9, .irem, .ifCond .ne 174] from rfl]
        simp (disch := omega) only [vs_irem, vs_ifCond, vs_getfield, vs_iaload, vs_aload0, vs_iload6, vs_iload9, vs_nil, gv_0, gv_1, gv_2, gv_3, pv_0, pv_1, va_rf_s, Nat.reduceDiv, Nat.reduceMod, Nat.reduceAdd, Nat.reduceMul, Int.reduceToNat, true_and, and_true, and_self, cP_eq, cP_ne, cP_lt, cP_ge, cP_gt, cP_le, eL_i, eL_l, eL_r, eL_n, Option.toList_none, Option.toList_some, List.nil_append, List.cons_append, kkI, llI, nnI, rrI, jjI, kkJ, llJ, nnJ, rrJ, iiJ, zIIs, zJJs, nEF, nET, and_false, false_and, jmin, jmax, catS_n, catS_i, catS_r, catS_l, Nat.reduceLeDiff, j1eq1, n21, jt0, jt1, Bool.false_eq_true, Classical.not_not, true_or, or_true, false_or, or_false, true_imp_iff, false_imp_iff, not_true_eq_false, not_false_eq_true, jif0, jif1, jifb, ltT, ltF, leT, leF, eqT, eqF, jlt, jle, jeq, jlt0, jle0, jeq0, jge0, jgt0, jinB, jnat, clt, cle, ceq, cgt, cge, lI_add, lI_sub, lI_mul, jadd, jsub, jmul, jneg, jtol, b010, b011, pv_2t, Int.toNat_natCast, Option.some.injEq, exists_eq_left', if_true, if_false, M, A, ts, mn, c1]
        by_cases c2 : n ≤ p
        · refine vs_ok 3 ?_
          rw [show ((gRes 242).drop 157).take 3 = [.iload 9, .iload 3, .if_icmp .gt 174] from rfl]
          simp (disch := omega) only [vs_if_icmp, vs_iload3, vs_iload9, vs_nil, gv_0, gv_1, gv_2, gv_3, pv_0, pv_1, va_rf_s, Nat.reduceDiv, Nat.reduceMod, Nat.reduceAdd, Nat.reduceMul, Int.reduceToNat, true_and, and_true, and_self, cP_eq, cP_ne, cP_lt, cP_ge, cP_gt, cP_le, eL_i, eL_l, eL_r, eL_n, Option.toList_none, Option.toList_some, List.nil_append, List.cons_append, kkI, llI, nnI, rrI, jjI, kkJ, llJ, nnJ, rrJ, iiJ, zIIs, zJJs, nEF, nET, and_false, false_and, jmin, jmax, catS_n, catS_i, catS_r, catS_l, Nat.reduceLeDiff, j1eq1, n21, jt0, jt1, Bool.false_eq_true, Classical.not_not, true_or, or_true, false_or, or_false, true_imp_iff, false_imp_iff, not_true_eq_false, not_false_eq_true, jif0, jif1, jifb, ltT, ltF, leT, leF, eqT, eqF, jlt, jle, jeq, jlt0, jle0, jeq0, jge0, jgt0, jinB, jnat, clt, cle, ceq, cgt, cge, lI_add, lI_sub, lI_mul, jadd, jsub, jmul, jneg, jtol, b010, b011, pv_2t, Int.toNat_natCast, Option.some.injEq, exists_eq_left', if_true, if_false]
          obtain ⟨W, hW⟩ : ∃ W, tg low / n = W := ⟨_, rfl⟩
          rw [hW] at dn no dl
          by_cases c3 : W ≤ q
          · refine vs_ok 8 ?_
            rw [show ((gRes 242).drop 160).take 8 = [.aload 0, .getfield 12332, .iload 6, .iaload, .iload 9, .idiv, .iload 4, .if_icmp .gt 174] from rfl]
            simp (disch := omega) only [vs_idiv, vs_if_icmp, vs_getfield, vs_iaload, vs_aload0, vs_iload4, vs_iload6, vs_iload9, vs_nil, gv_0, gv_1, gv_2, gv_3, pv_0, pv_1, va_rf_s, Nat.reduceDiv, Nat.reduceMod, Nat.reduceAdd, Nat.reduceMul, Int.reduceToNat, true_and, and_true, and_self, cP_eq, cP_ne, cP_lt, cP_ge, cP_gt, cP_le, eL_i, eL_l, eL_r, eL_n, Option.toList_none, Option.toList_some, List.nil_append, List.cons_append, kkI, llI, nnI, rrI, jjI, kkJ, llJ, nnJ, rrJ, iiJ, zIIs, zJJs, nEF, nET, and_false, false_and, jmin, jmax, catS_n, catS_i, catS_r, catS_l, Nat.reduceLeDiff, j1eq1, n21, jt0, jt1, Bool.false_eq_true, Classical.not_not, true_or, or_true, false_or, or_false, true_imp_iff, false_imp_iff, not_true_eq_false, not_false_eq_true, jif0, jif1, jifb, ltT, ltF, leT, leF, eqT, eqF, jlt, jle, jeq, jlt0, jle0, jeq0, jge0, jgt0, jinB, jnat, clt, cle, ceq, cgt, cge, lI_add, lI_sub, lI_mul, jadd, jsub, jmul, jneg, jtol, b010, b011, pv_2t, Int.toNat_natCast, Option.some.injEq, exists_eq_left', if_true, if_false, M, A, ts, dn]
            refine vs_ok 5 ?_
            rw [show ((gRes 242).drop 168).take 5 = [.aload 0, .iload 8, .iload 9, .iload 6, .iload 7] from rfl]
            simp (disch := omega) only [vs_aload0, vs_iload6, vs_iload7, vs_iload8, vs_iload9, vs_nil, gv_0, gv_1, gv_2, gv_3, pv_0, pv_1, va_rf_s, Nat.reduceDiv, Nat.reduceMod, Nat.reduceAdd, Nat.reduceMul, Int.reduceToNat, true_and, and_true, and_self, cP_eq, cP_ne, cP_lt, cP_ge, cP_gt, cP_le, eL_i, eL_l, eL_r, eL_n, Option.toList_none, Option.toList_some, List.nil_append, List.cons_append, kkI, llI, nnI, rrI, jjI, kkJ, llJ, nnJ, rrJ, iiJ, zIIs, zJJs, nEF, nET, and_false, false_and, jmin, jmax, catS_n, catS_i, catS_r, catS_l, Nat.reduceLeDiff, j1eq1, n21, jt0, jt1, Bool.false_eq_true, Classical.not_not, true_or, or_true, false_or, or_false, true_imp_iff, false_imp_iff, not_true_eq_false, not_false_eq_true, jif0, jif1, jifb, ltT, ltF, leT, leF, eqT, eqF, jlt, jle, jeq, jlt0, jle0, jeq0, jge0, jgt0, jinB, jnat, clt, cle, ceq, cgt, cge, lI_add, lI_sub, lI_mul, jadd, jsub, jmul, jneg, jtol, b010, b011, pv_2t, Int.toNat_natCast, Option.some.injEq, exists_eq_left', if_true, if_false]
            rw [hW] at p174
            rw [if_pos ⟨c1, c2, c3⟩] at p174
            refine PW.iv rfl rfl rfl M.1 M.2 (le_b rfl) (le_b rfl) ?_
            refine t_M_tryFrom (J := fun L g => ksK g m (ksL p q L)) (L := L) (y := y) (q := q) (tg := tg) (D := D) hg n1 (by omega) hp hq (by omega) hx hy hhi hlh (fun s hs => ⟨(htg s hs).1, by rw [c.1.1.2.2.2.2.2.1 (m + 21) (by unfold tcS; omega)]; exact (htg s hs).2⟩) (by rw [c.2 41 (by omega) (by omega) (by omega) (by omega)]; exact h41) (by rw [c.2 42 (by omega) (by omega) (by omega) (by omega)]; exact h42) c2 (by rw [hW]; exact c3) c1 h1 (fun L g g2 j _ c => ksK.tc j c) (fun L X Y g Q' x1 y1 hg g41 g42 ty j k => t_M_tried hp hq x1 y1 hg g41 g42 ty j k) k fun g2 f2 e2 k2 => ⟨rfl, ⟨f2.1.2.2.1, rfl⟩, ?_⟩
            rw [hW] at k2
            exact p174 g2 ⟨c.1.tr f2, fun i h1 h2 h3 h4 => by rw [e2 i h1 h2 h3 h4]; exact c.2 i h1 h2 h3 h4⟩ k2
          · refine vs_ok 8 ?_
            rw [show ((gRes 242).drop 160).take 8 = [.aload 0, .getfield 12332, .iload 6, .iaload, .iload 9, .idiv, .iload 4, .if_icmp .gt 174] from rfl]
            simp (disch := omega) only [vs_idiv, vs_if_icmp, vs_getfield, vs_iaload, vs_aload0, vs_iload4, vs_iload6, vs_iload9, vs_nil, gv_0, gv_1, gv_2, gv_3, pv_0, pv_1, va_rf_s, Nat.reduceDiv, Nat.reduceMod, Nat.reduceAdd, Nat.reduceMul, Int.reduceToNat, true_and, and_true, and_self, cP_eq, cP_ne, cP_lt, cP_ge, cP_gt, cP_le, eL_i, eL_l, eL_r, eL_n, Option.toList_none, Option.toList_some, List.nil_append, List.cons_append, kkI, llI, nnI, rrI, jjI, kkJ, llJ, nnJ, rrJ, iiJ, zIIs, zJJs, nEF, nET, and_false, false_and, jmin, jmax, catS_n, catS_i, catS_r, catS_l, Nat.reduceLeDiff, j1eq1, n21, jt0, jt1, Bool.false_eq_true, Classical.not_not, true_or, or_true, false_or, or_false, true_imp_iff, false_imp_iff, not_true_eq_false, not_false_eq_true, jif0, jif1, jifb, ltT, ltF, leT, leF, eqT, eqF, jlt, jle, jeq, jlt0, jle0, jeq0, jge0, jgt0, jinB, jnat, clt, cle, ceq, cgt, cge, lI_add, lI_sub, lI_mul, jadd, jsub, jmul, jneg, jtol, b010, b011, pv_2t, Int.toNat_natCast, Option.some.injEq, exists_eq_left', if_true, if_false, M, A, ts, dn]
            exact no fun z => c3 z.2.2
        · refine vs_ok 3 ?_
          rw [show ((gRes 242).drop 157).take 3 = [.iload 9, .iload 3, .if_icmp .gt 174] from rfl]
          simp (disch := omega) only [vs_if_icmp, vs_iload3, vs_iload9, vs_nil, gv_0, gv_1, gv_2, gv_3, pv_0, pv_1, va_rf_s, Nat.reduceDiv, Nat.reduceMod, Nat.reduceAdd, Nat.reduceMul, Int.reduceToNat, true_and, and_true, and_self, cP_eq, cP_ne, cP_lt, cP_ge, cP_gt, cP_le, eL_i, eL_l, eL_r, eL_n, Option.toList_none, Option.toList_some, List.nil_append, List.cons_append, kkI, llI, nnI, rrI, jjI, kkJ, llJ, nnJ, rrJ, iiJ, zIIs, zJJs, nEF, nET, and_false, false_and, jmin, jmax, catS_n, catS_i, catS_r, catS_l, Nat.reduceLeDiff, j1eq1, n21, jt0, jt1, Bool.false_eq_true, Classical.not_not, true_or, or_true, false_or, or_false, true_imp_iff, false_imp_iff, not_true_eq_false, not_false_eq_true, jif0, jif1, jifb, ltT, ltF, leT, leF, eqT, eqF, jlt, jle, jeq, jlt0, jle0, jeq0, jge0, jgt0, jinB, jnat, clt, cle, ceq, cgt, cge, lI_add, lI_sub, lI_mul, jadd, jsub, jmul, jneg, jtol, b010, b011, pv_2t, Int.toNat_natCast, Option.some.injEq, exists_eq_left', if_true, if_false]
          exact no fun z => c2 z.2.1
      · have z : ¬ Int32.ofInt ((tg low % n : Nat) : Int) = 0 := fun z => c1 (by
          have := (zeq0 (x := ((tg low % n : Nat) : Int)) (by have := Nat.mod_le (tg low) n; constructor <;> omega)).mp z
          omega)
        refine vs_ok 7 ?_
        rw [show ((gRes 242).drop 150).take 7 = [.aload 0, .getfield 12332, .iload 6, .iaload, .iload 9, .irem, .ifCond .ne 174] from rfl]
        simp (disch := omega) only [vs_irem, vs_ifCond, vs_getfield, vs_iaload, vs_aload0, vs_iload6, vs_iload9, vs_nil, gv_0, gv_1, gv_2, gv_3, pv_0, pv_1, va_rf_s, Nat.reduceDiv, Nat.reduceMod, Nat.reduceAdd, Nat.reduceMul, Int.reduceToNat, true_and, and_true, and_self, cP_eq, cP_ne, cP_lt, cP_ge, cP_gt, cP_le, eL_i, eL_l, eL_r, eL_n, Option.toList_none, Option.toList_some, List.nil_append, List.cons_append, kkI, llI, nnI, rrI, jjI, kkJ, llJ, nnJ, rrJ, iiJ, zIIs, zJJs, nEF, nET, and_false, false_and, jmin, jmax, catS_n, catS_i, catS_r, catS_l, Nat.reduceLeDiff, j1eq1, n21, jt0, jt1, Bool.false_eq_true, Classical.not_not, true_or, or_true, false_or, or_false, true_imp_iff, false_imp_iff, not_true_eq_false, not_false_eq_true, jif0, jif1, jifb, ltT, ltF, leT, leF, eqT, eqF, jlt, jle, jeq, jlt0, jle0, jeq0, jge0, jgt0, jinB, jnat, clt, cle, ceq, cgt, cge, lI_add, lI_sub, lI_mul, jadd, jsub, jmul, jneg, jtol, b010, b011, pv_2t, Int.toNat_natCast, Option.some.injEq, exists_eq_left', if_true, if_false, M, A, ts, mn, z]
        exact no fun z => c1 z.1
  have lpx : ∀ (j x : Nat), j + x = 61 → ∀ (L : List Pr2) (g : Hp) (l9 : Option Value), ocC h g m → ksK g m (ksL p q L) → (∀ (g : Hp) (l8 l9 : Option Value), ocC h g m → ksK g m (ksL p q (L ++ oLx tg p q l low high j x)) → PW (D + 3) 242 178 [some (.ref m), some (.int (iI a)), some (.int (iI b)), some (.int (iI p)), some (.int (iI q)), some (.int (iI l)), some (.int (iI low)), some (.int (iI high)), l8, l9] [] g Q) → PW (D + 3) 242 128 [some (.ref m), some (.int (iI a)), some (.int (iI b)), some (.int (iI p)), some (.int (iI q)), some (.int (iI l)), some (.int (iI low)), some (.int (iI high)), some (.int (iI x)), l9] [] g Q := by
    intro j
    induction j with
    | zero =>
      intro x hx L g l9 c k K2
      refine vs_ok 3 ?_
      rw [show ((gRes 242).drop 128).take 3 = [.iload 8, .iconst 60, .if_icmp .gt 178] from rfl]
      simp (disch := omega) only [vs_iconst, vs_if_icmp, vs_iload8, vs_nil, gv_0, gv_1, gv_2, gv_3, pv_0, pv_1, va_rf_s, Nat.reduceDiv, Nat.reduceMod, Nat.reduceAdd, Nat.reduceMul, Int.reduceToNat, true_and, and_true, and_self, cP_eq, cP_ne, cP_lt, cP_ge, cP_gt, cP_le, eL_i, eL_l, eL_r, eL_n, Option.toList_none, Option.toList_some, List.nil_append, List.cons_append, kkI, llI, nnI, rrI, jjI, kkJ, llJ, nnJ, rrJ, iiJ, zIIs, zJJs, nEF, nET, and_false, false_and, jmin, jmax, catS_n, catS_i, catS_r, catS_l, Nat.reduceLeDiff, j1eq1, n21, jt0, jt1, Bool.false_eq_true, Classical.not_not, true_or, or_true, false_or, or_false, true_imp_iff, false_imp_iff, not_true_eq_false, not_false_eq_true, jif0, jif1, jifb, ltT, ltF, leT, leF, eqT, eqF, jlt, jle, jeq, jlt0, jle0, jeq0, jge0, jgt0, jinB, jnat, clt, cle, ceq, cgt, cge, lI_add, lI_sub, lI_mul, jadd, jsub, jmul, jneg, jtol, b010, b011, pv_2t, Int.toNat_natCast, Option.some.injEq, exists_eq_left', if_true, if_false]
      refine K2 g _ _ c ?_
      show ksK g m (ksL p q (L ++ []))
      rw [List.append_nil]
      exact k
    | succ j ih =>
      intro x hx L g l9 c k K2
      have eo : oLx tg p q l low high (j + 1) x = if x + l ≤ low then (if low - x ≤ 60 then oLn tg p q x low high (tg low) 1 else []) ++ oLx tg p q l low high j (x + 1) else [] := rfl
      rw [eo] at K2
      by_cases c1 : x + l ≤ low
      · rw [if_pos c1] at K2
        obtain ⟨y, hy⟩ : ∃ y : Nat, x + y = low := ⟨low - x, by omega⟩
        have ey : (low : Int) - (x : Int) = (y : Int) := by omega
        have ey2 : low - x = y := by omega
        rw [ey2] at K2
        have p176 : ∀ (g2 : Hp) (l9 : Option Value), ocC h g2 m → ksK g2 m (ksL p q (L ++ (if y ≤ 60 then oLn tg p q x low high (tg low) 1 else []))) → PW (D + 3) 242 176 [some (.ref m), some (.int (iI a)), some (.int (iI b)), some (.int (iI p)), some (.int (iI q)), some (.int (iI l)), some (.int (iI low)), some (.int (iI high)), some (.int (iI x)), l9] [] g2 Q := fun g2 l9 c2 k2 => by
          refine vs_ok 2 ?_
          rw [show ((gRes 242).drop 176).take 2 = [.iinc 8 1, .goto 128] from rfl]
          simp (disch := omega) only [vs_goto, vs_iinc8n, vs_iinc8i, vs_iinc8r, vs_iinc8l, vs_nil, gv_0, gv_1, gv_2, gv_3, pv_0, pv_1, va_rf_s, Nat.reduceDiv, Nat.reduceMod, Nat.reduceAdd, Nat.reduceMul, Int.reduceToNat, true_and, and_true, and_self, cP_eq, cP_ne, cP_lt, cP_ge, cP_gt, cP_le, eL_i, eL_l, eL_r, eL_n, Option.toList_none, Option.toList_some, List.nil_append, List.cons_append, kkI, llI, nnI, rrI, jjI, kkJ, llJ, nnJ, rrJ, iiJ, zIIs, zJJs, nEF, nET, and_false, false_and, jmin, jmax, catS_n, catS_i, catS_r, catS_l, Nat.reduceLeDiff, j1eq1, n21, jt0, jt1, Bool.false_eq_true, Classical.not_not, true_or, or_true, false_or, or_false, true_imp_iff, false_imp_iff, not_true_eq_false, not_false_eq_true, jif0, jif1, jifb, ltT, ltF, leT, leF, eqT, eqF, jlt, jle, jeq, jlt0, jle0, jeq0, jge0, jgt0, jinB, jnat, clt, cle, ceq, cgt, cge, lI_add, lI_sub, lI_mul, jadd, jsub, jmul, jneg, jtol, b010, b011, pv_2t, Int.toNat_natCast, Option.some.injEq, exists_eq_left', if_true, if_false]
          refine ih (x + 1) (by omega) _ g2 _ c2 k2 fun g l8 l9 c k => K2 g l8 l9 c ?_
          rw [← List.append_assoc]
          exact k
        by_cases c2 : y ≤ 60
        · rw [if_pos c2] at p176
          refine vs_ok 3 ?_
          rw [show ((gRes 242).drop 128).take 3 = [.iload 8, .iconst 60, .if_icmp .gt 178] from rfl]
          simp (disch := omega) only [vs_iconst, vs_if_icmp, vs_iload8, vs_nil, gv_0, gv_1, gv_2, gv_3, pv_0, pv_1, va_rf_s, Nat.reduceDiv, Nat.reduceMod, Nat.reduceAdd, Nat.reduceMul, Int.reduceToNat, true_and, and_true, and_self, cP_eq, cP_ne, cP_lt, cP_ge, cP_gt, cP_le, eL_i, eL_l, eL_r, eL_n, Option.toList_none, Option.toList_some, List.nil_append, List.cons_append, kkI, llI, nnI, rrI, jjI, kkJ, llJ, nnJ, rrJ, iiJ, zIIs, zJJs, nEF, nET, and_false, false_and, jmin, jmax, catS_n, catS_i, catS_r, catS_l, Nat.reduceLeDiff, j1eq1, n21, jt0, jt1, Bool.false_eq_true, Classical.not_not, true_or, or_true, false_or, or_false, true_imp_iff, false_imp_iff, not_true_eq_false, not_false_eq_true, jif0, jif1, jifb, ltT, ltF, leT, leF, eqT, eqF, jlt, jle, jeq, jlt0, jle0, jeq0, jge0, jgt0, jinB, jnat, clt, cle, ceq, cgt, cge, lI_add, lI_sub, lI_mul, jadd, jsub, jmul, jneg, jtol, b010, b011, pv_2t, Int.toNat_natCast, Option.some.injEq, exists_eq_left', if_true, if_false]
          refine vs_ok 5 ?_
          rw [show ((gRes 242).drop 131).take 5 = [.iload 6, .iload 8, .isub, .iload 5, .if_icmp .lt 178] from rfl]
          simp (disch := omega) only [vs_isub, vs_if_icmp, vs_iload5, vs_iload6, vs_iload8, vs_nil, gv_0, gv_1, gv_2, gv_3, pv_0, pv_1, va_rf_s, Nat.reduceDiv, Nat.reduceMod, Nat.reduceAdd, Nat.reduceMul, Int.reduceToNat, true_and, and_true, and_self, cP_eq, cP_ne, cP_lt, cP_ge, cP_gt, cP_le, eL_i, eL_l, eL_r, eL_n, Option.toList_none, Option.toList_some, List.nil_append, List.cons_append, kkI, llI, nnI, rrI, jjI, kkJ, llJ, nnJ, rrJ, iiJ, zIIs, zJJs, nEF, nET, and_false, false_and, jmin, jmax, catS_n, catS_i, catS_r, catS_l, Nat.reduceLeDiff, j1eq1, n21, jt0, jt1, Bool.false_eq_true, Classical.not_not, true_or, or_true, false_or, or_false, true_imp_iff, false_imp_iff, not_true_eq_false, not_false_eq_true, jif0, jif1, jifb, ltT, ltF, leT, leF, eqT, eqF, jlt, jle, jeq, jlt0, jle0, jeq0, jge0, jgt0, jinB, jnat, clt, cle, ceq, cgt, cge, lI_add, lI_sub, lI_mul, jadd, jsub, jmul, jneg, jtol, b010, b011, pv_2t, Int.toNat_natCast, Option.some.injEq, exists_eq_left', if_true, if_false, ey]
          refine vs_ok 5 ?_
          rw [show ((gRes 242).drop 136).take 5 = [.iload 6, .iload 8, .isub, .iconst 60, .if_icmp .le 142] from rfl]
          simp (disch := omega) only [vs_isub, vs_iconst, vs_if_icmp, vs_iload6, vs_iload8, vs_nil, gv_0, gv_1, gv_2, gv_3, pv_0, pv_1, va_rf_s, Nat.reduceDiv, Nat.reduceMod, Nat.reduceAdd, Nat.reduceMul, Int.reduceToNat, true_and, and_true, and_self, cP_eq, cP_ne, cP_lt, cP_ge, cP_gt, cP_le, eL_i, eL_l, eL_r, eL_n, Option.toList_none, Option.toList_some, List.nil_append, List.cons_append, kkI, llI, nnI, rrI, jjI, kkJ, llJ, nnJ, rrJ, iiJ, zIIs, zJJs, nEF, nET, and_false, false_and, jmin, jmax, catS_n, catS_i, catS_r, catS_l, Nat.reduceLeDiff, j1eq1, n21, jt0, jt1, Bool.false_eq_true, Classical.not_not, true_or, or_true, false_or, or_false, true_imp_iff, false_imp_iff, not_true_eq_false, not_false_eq_true, jif0, jif1, jifb, ltT, ltF, leT, leF, eqT, eqF, jlt, jle, jeq, jlt0, jle0, jeq0, jge0, jgt0, jinB, jnat, clt, cle, ceq, cgt, cge, lI_add, lI_sub, lI_mul, jadd, jsub, jmul, jneg, jtol, b010, b011, pv_2t, Int.toNat_natCast, Option.some.injEq, exists_eq_left', if_true, if_false, ey]
          refine vs_ok 2 ?_
          rw [show ((gRes 242).drop 142).take 2 = [.iconst 1, .istore 9] from rfl]
          simp (disch := omega) only [vs_iconst, vs_istore9n, vs_istore9i, vs_istore9r, vs_istore9l, vs_nil, gv_0, gv_1, gv_2, gv_3, pv_0, pv_1, va_rf_s, Nat.reduceDiv, Nat.reduceMod, Nat.reduceAdd, Nat.reduceMul, Int.reduceToNat, true_and, and_true, and_self, cP_eq, cP_ne, cP_lt, cP_ge, cP_gt, cP_le, eL_i, eL_l, eL_r, eL_n, Option.toList_none, Option.toList_some, List.nil_append, List.cons_append, kkI, llI, nnI, rrI, jjI, kkJ, llJ, nnJ, rrJ, iiJ, zIIs, zJJs, nEF, nET, and_false, false_and, jmin, jmax, catS_n, catS_i, catS_r, catS_l, Nat.reduceLeDiff, j1eq1, n21, jt0, jt1, Bool.false_eq_true, Classical.not_not, true_or, or_true, false_or, or_false, true_imp_iff, false_imp_iff, not_true_eq_false, not_false_eq_true, jif0, jif1, jifb, ltT, ltF, leT, leF, eqT, eqF, jlt, jle, jeq, jlt0, jle0, jeq0, jge0, jgt0, jinB, jnat, clt, cle, ceq, cgt, cge, lI_add, lI_sub, lI_mul, jadd, jsub, jmul, jneg, jtol, b010, b011, pv_2t, Int.toNat_natCast, Option.some.injEq, exists_eq_left', if_true, if_false]
          exact lpn x y hy (by omega) c2 (tg low) 1 rfl (Nat.le_refl 1) L g c k p176
        · rw [if_neg c2, List.append_nil] at p176
          refine vs_ok 3 ?_
          rw [show ((gRes 242).drop 128).take 3 = [.iload 8, .iconst 60, .if_icmp .gt 178] from rfl]
          simp (disch := omega) only [vs_iconst, vs_if_icmp, vs_iload8, vs_nil, gv_0, gv_1, gv_2, gv_3, pv_0, pv_1, va_rf_s, Nat.reduceDiv, Nat.reduceMod, Nat.reduceAdd, Nat.reduceMul, Int.reduceToNat, true_and, and_true, and_self, cP_eq, cP_ne, cP_lt, cP_ge, cP_gt, cP_le, eL_i, eL_l, eL_r, eL_n, Option.toList_none, Option.toList_some, List.nil_append, List.cons_append, kkI, llI, nnI, rrI, jjI, kkJ, llJ, nnJ, rrJ, iiJ, zIIs, zJJs, nEF, nET, and_false, false_and, jmin, jmax, catS_n, catS_i, catS_r, catS_l, Nat.reduceLeDiff, j1eq1, n21, jt0, jt1, Bool.false_eq_true, Classical.not_not, true_or, or_true, false_or, or_false, true_imp_iff, false_imp_iff, not_true_eq_false, not_false_eq_true, jif0, jif1, jifb, ltT, ltF, leT, leF, eqT, eqF, jlt, jle, jeq, jlt0, jle0, jeq0, jge0, jgt0, jinB, jnat, clt, cle, ceq, cgt, cge, lI_add, lI_sub, lI_mul, jadd, jsub, jmul, jneg, jtol, b010, b011, pv_2t, Int.toNat_natCast, Option.some.injEq, exists_eq_left', if_true, if_false]
          refine vs_ok 5 ?_
          rw [show ((gRes 242).drop 131).take 5 = [.iload 6, .iload 8, .isub, .iload 5, .if_icmp .lt 178] from rfl]
          simp (disch := omega) only [vs_isub, vs_if_icmp, vs_iload5, vs_iload6, vs_iload8, vs_nil, gv_0, gv_1, gv_2, gv_3, pv_0, pv_1, va_rf_s, Nat.reduceDiv, Nat.reduceMod, Nat.reduceAdd, Nat.reduceMul, Int.reduceToNat, true_and, and_true, and_self, cP_eq, cP_ne, cP_lt, cP_ge, cP_gt, cP_le, eL_i, eL_l, eL_r, eL_n, Option.toList_none, Option.toList_some, List.nil_append, List.cons_append, kkI, llI, nnI, rrI, jjI, kkJ, llJ, nnJ, rrJ, iiJ, zIIs, zJJs, nEF, nET, and_false, false_and, jmin, jmax, catS_n, catS_i, catS_r, catS_l, Nat.reduceLeDiff, j1eq1, n21, jt0, jt1, Bool.false_eq_true, Classical.not_not, true_or, or_true, false_or, or_false, true_imp_iff, false_imp_iff, not_true_eq_false, not_false_eq_true, jif0, jif1, jifb, ltT, ltF, leT, leF, eqT, eqF, jlt, jle, jeq, jlt0, jle0, jeq0, jge0, jgt0, jinB, jnat, clt, cle, ceq, cgt, cge, lI_add, lI_sub, lI_mul, jadd, jsub, jmul, jneg, jtol, b010, b011, pv_2t, Int.toNat_natCast, Option.some.injEq, exists_eq_left', if_true, if_false, ey]
          refine vs_ok 5 ?_
          rw [show ((gRes 242).drop 136).take 5 = [.iload 6, .iload 8, .isub, .iconst 60, .if_icmp .le 142] from rfl]
          simp (disch := omega) only [vs_isub, vs_iconst, vs_if_icmp, vs_iload6, vs_iload8, vs_nil, gv_0, gv_1, gv_2, gv_3, pv_0, pv_1, va_rf_s, Nat.reduceDiv, Nat.reduceMod, Nat.reduceAdd, Nat.reduceMul, Int.reduceToNat, true_and, and_true, and_self, cP_eq, cP_ne, cP_lt, cP_ge, cP_gt, cP_le, eL_i, eL_l, eL_r, eL_n, Option.toList_none, Option.toList_some, List.nil_append, List.cons_append, kkI, llI, nnI, rrI, jjI, kkJ, llJ, nnJ, rrJ, iiJ, zIIs, zJJs, nEF, nET, and_false, false_and, jmin, jmax, catS_n, catS_i, catS_r, catS_l, Nat.reduceLeDiff, j1eq1, n21, jt0, jt1, Bool.false_eq_true, Classical.not_not, true_or, or_true, false_or, or_false, true_imp_iff, false_imp_iff, not_true_eq_false, not_false_eq_true, jif0, jif1, jifb, ltT, ltF, leT, leF, eqT, eqF, jlt, jle, jeq, jlt0, jle0, jeq0, jge0, jgt0, jinB, jnat, clt, cle, ceq, cgt, cge, lI_add, lI_sub, lI_mul, jadd, jsub, jmul, jneg, jtol, b010, b011, pv_2t, Int.toNat_natCast, Option.some.injEq, exists_eq_left', if_true, if_false, ey]
          refine vs_ok 1 ?_
          rw [show ((gRes 242).drop 141).take 1 = [.goto 176] from rfl]
          simp (disch := omega) only [vs_goto, vs_nil, gv_0, gv_1, gv_2, gv_3, pv_0, pv_1, va_rf_s, Nat.reduceDiv, Nat.reduceMod, Nat.reduceAdd, Nat.reduceMul, Int.reduceToNat, true_and, and_true, and_self, cP_eq, cP_ne, cP_lt, cP_ge, cP_gt, cP_le, eL_i, eL_l, eL_r, eL_n, Option.toList_none, Option.toList_some, List.nil_append, List.cons_append, kkI, llI, nnI, rrI, jjI, kkJ, llJ, nnJ, rrJ, iiJ, zIIs, zJJs, nEF, nET, and_false, false_and, jmin, jmax, catS_n, catS_i, catS_r, catS_l, Nat.reduceLeDiff, j1eq1, n21, jt0, jt1, Bool.false_eq_true, Classical.not_not, true_or, or_true, false_or, or_false, true_imp_iff, false_imp_iff, not_true_eq_false, not_false_eq_true, jif0, jif1, jifb, ltT, ltF, leT, leF, eqT, eqF, jlt, jle, jeq, jlt0, jle0, jeq0, jge0, jgt0, jinB, jnat, clt, cle, ceq, cgt, cge, lI_add, lI_sub, lI_mul, jadd, jsub, jmul, jneg, jtol, b010, b011, pv_2t, Int.toNat_natCast, Option.some.injEq, exists_eq_left', if_true, if_false]
          exact p176 g _ c k
      · rw [if_neg c1, List.append_nil] at K2
        refine vs_ok 3 ?_
        rw [show ((gRes 242).drop 128).take 3 = [.iload 8, .iconst 60, .if_icmp .gt 178] from rfl]
        simp (disch := omega) only [vs_iconst, vs_if_icmp, vs_iload8, vs_nil, gv_0, gv_1, gv_2, gv_3, pv_0, pv_1, va_rf_s, Nat.reduceDiv, Nat.reduceMod, Nat.reduceAdd, Nat.reduceMul, Int.reduceToNat, true_and, and_true, and_self, cP_eq, cP_ne, cP_lt, cP_ge, cP_gt, cP_le, eL_i, eL_l, eL_r, eL_n, Option.toList_none, Option.toList_some, List.nil_append, List.cons_append, kkI, llI, nnI, rrI, jjI, kkJ, llJ, nnJ, rrJ, iiJ, zIIs, zJJs, nEF, nET, and_false, false_and, jmin, jmax, catS_n, catS_i, catS_r, catS_l, Nat.reduceLeDiff, j1eq1, n21, jt0, jt1, Bool.false_eq_true, Classical.not_not, true_or, or_true, false_or, or_false, true_imp_iff, false_imp_iff, not_true_eq_false, not_false_eq_true, jif0, jif1, jifb, ltT, ltF, leT, leF, eqT, eqF, jlt, jle, jeq, jlt0, jle0, jeq0, jge0, jgt0, jinB, jnat, clt, cle, ceq, cgt, cge, lI_add, lI_sub, lI_mul, jadd, jsub, jmul, jneg, jtol, b010, b011, pv_2t, Int.toNat_natCast, Option.some.injEq, exists_eq_left', if_true, if_false]
        refine vs_ok 5 ?_
        rw [show ((gRes 242).drop 131).take 5 = [.iload 6, .iload 8, .isub, .iload 5, .if_icmp .lt 178] from rfl]
        simp (disch := omega) only [vs_isub, vs_if_icmp, vs_iload5, vs_iload6, vs_iload8, vs_nil, gv_0, gv_1, gv_2, gv_3, pv_0, pv_1, va_rf_s, Nat.reduceDiv, Nat.reduceMod, Nat.reduceAdd, Nat.reduceMul, Int.reduceToNat, true_and, and_true, and_self, cP_eq, cP_ne, cP_lt, cP_ge, cP_gt, cP_le, eL_i, eL_l, eL_r, eL_n, Option.toList_none, Option.toList_some, List.nil_append, List.cons_append, kkI, llI, nnI, rrI, jjI, kkJ, llJ, nnJ, rrJ, iiJ, zIIs, zJJs, nEF, nET, and_false, false_and, jmin, jmax, catS_n, catS_i, catS_r, catS_l, Nat.reduceLeDiff, j1eq1, n21, jt0, jt1, Bool.false_eq_true, Classical.not_not, true_or, or_true, false_or, or_false, true_imp_iff, false_imp_iff, not_true_eq_false, not_false_eq_true, jif0, jif1, jifb, ltT, ltF, leT, leF, eqT, eqF, jlt, jle, jeq, jlt0, jle0, jeq0, jge0, jgt0, jinB, jnat, clt, cle, ceq, cgt, cge, lI_add, lI_sub, lI_mul, jadd, jsub, jmul, jneg, jtol, b010, b011, pv_2t, Int.toNat_natCast, Option.some.injEq, exists_eq_left', if_true, if_false]
        exact K2 g _ _ c k
  refine vs_ok 2 ?_
  rw [show ((gRes 242).drop 126).take 2 = [.iload 5, .istore 8] from rfl]
  simp (disch := omega) only [vs_iload5, vs_istore8n, vs_istore8i, vs_istore8r, vs_istore8l, vs_nil, gv_0, gv_1, gv_2, gv_3, pv_0, pv_1, va_rf_s, Nat.reduceDiv, Nat.reduceMod, Nat.reduceAdd, Nat.reduceMul, Int.reduceToNat, true_and, and_true, and_self, cP_eq, cP_ne, cP_lt, cP_ge, cP_gt, cP_le, eL_i, eL_l, eL_r, eL_n, Option.toList_none, Option.toList_some, List.nil_append, List.cons_append, kkI, llI, nnI, rrI, jjI, kkJ, llJ, nnJ, rrJ, iiJ, zIIs, zJJs, nEF, nET, and_false, false_and, jmin, jmax, catS_n, catS_i, catS_r, catS_l, Nat.reduceLeDiff, j1eq1, n21, jt0, jt1, Bool.false_eq_true, Classical.not_not, true_or, or_true, false_or, or_false, true_imp_iff, false_imp_iff, not_true_eq_false, not_false_eq_true, jif0, jif1, jifb, ltT, ltF, leT, leF, eqT, eqF, jlt, jle, jeq, jlt0, jle0, jeq0, jge0, jgt0, jinB, jnat, clt, cle, ceq, cgt, cge, lI_add, lI_sub, lI_mul, jadd, jsub, jmul, jneg, jtol, b010, b011, pv_2t, Int.toNat_natCast, Option.some.injEq, exists_eq_left', if_true, if_false]
  exact lpx (61 - l) l (by omega) [] h _ ⟨fi.rf, fun _ _ _ _ _ => rfl⟩ j0 out
