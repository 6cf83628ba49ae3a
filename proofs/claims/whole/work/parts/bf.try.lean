/-! the Model: tryFrom, all pairs that begin alike -/
/-- how often two FACES make s -/
abbrev cvT (X Y : Nat → Nat) (s v : Nat) : Nat := if v ≤ s ∧ s - v ≤ 60 then X v * Y (s - v) else 0
def cvN (X Y : Nat → Nat) (s : Nat) : Nat := smN (cvT X Y s) 61
abbrev upS (X : Nat → Nat) (i t : Nat) : Nat → Nat := if i ≤ 60 then upN X i t else X
abbrev Pr2 : Type := (Nat → Nat) × (Nat → Nat)
/-- t more of x's FACES can be at the sum s, of which l are left -/
abbrev okT (n P Q x y s : Nat) (X Y : Nat → Nat) (l t : Nat) : Prop := t * Y y ≤ l ∧ (l - t * Y y) % n = 0 ∧ (t = 0 ∨ s - y ≤ 60) ∧ (l - t * Y y = 0 ∨ s - x ≤ 60) ∧ smN X 61 + t ≤ P ∧ smN Y 61 + (l - t * Y y) / n ≤ Q
def opL (n P Q x y s : Nat) (ch : (Nat → Nat) → (Nat → Nat) → List Pr2) (X Y : Nat → Nat) (l : Nat) : Nat → Nat → List Pr2
  | 0, _ => []
  | j + 1, t => (if okT n P Q x y s X Y l t then ch (upS X (s - y) t) (upS Y (s - x) ((l - t * Y y) / n)) else []) ++ opL n P Q x y s ch X Y l j (t + 1)
/-- all pairs that go on as X and Y, from k sums ahead of the last on -/
def mdL (tg : Nat → Nat) (n P Q x y high : Nat) : Nat → (Nat → Nat) → (Nat → Nat) → List Pr2
  | 0, X, Y => if smN X 61 = P ∧ smN Y 61 = Q then [(X, Y)] else []
  | k + 1, X, Y => if cvN X Y (high - k) ≤ tg (high - k) then opL n P Q x y (high - k) (mdL tg n P Q x y high k) X Y (tg (high - k) - cvN X Y (high - k)) (tg (high - k) - cvN X Y (high - k) + 1) 0 else []
theorem opL_nil {n P Q x y s : Nat} {ch : (Nat → Nat) → (Nat → Nat) → List Pr2} {X Y : Nat → Nat} {l : Nat} : ∀ (j t : Nat), ¬ t * Y y ≤ l → opL n P Q x y s ch X Y l j t = []
  | 0, _, _ => rfl
  | j + 1, t, h => by
    have e : (t + 1) * Y y = t * Y y + Y y := by rw [Nat.add_mul, Nat.one_mul]
    show (if okT n P Q x y s X Y l t then _ else []) ++ opL n P Q x y s ch X Y l j (t + 1) = []
    rw [if_neg fun z => h z.1, opL_nil j (t + 1) (by omega)]
    rfl
theorem sm_up {X : Nat → Nat} {i t : Nat} : ∀ n, smN (upN X i t) n + (if i < n then X i else 0) = smN X n + if i < n then t else 0
  | 0 => by rw [if_neg (by omega), if_neg (by omega)]; rfl
  | n + 1 => by
    have ih := sm_up (X := X) (i := i) (t := t) n
    show smN (upN X i t) n + (if n = i then t else X n) + (if i < n + 1 then X i else 0) = smN X n + X n + if i < n + 1 then t else 0
    by_cases c : n = i
    · rw [if_pos c, if_pos (by omega), if_pos (by omega)]
      rw [if_neg (by omega), if_neg (by omega)] at ih
      rw [c] at ih ⊢
      omega
    · rw [if_neg c]
      by_cases c2 : i < n
      · rw [if_pos (by omega), if_pos (by omega)]
        rw [if_pos c2, if_pos c2] at ih
        omega
      · rw [if_neg (by omega), if_neg (by omega)]
        rw [if_neg c2, if_neg c2] at ih
        omega
theorem sm_upS {X : Nat → Nat} {i t : Nat} (h : i ≤ 60 → X i = 0) (ht : 60 < i → t = 0) : smN (upS X i t) 61 = smN X 61 + t := by
  by_cases c : i ≤ 60
  · have := sm_up (X := X) (i := i) (t := t) 61
    rw [if_pos (by omega), if_pos (by omega), h c] at this
    show smN (if i ≤ 60 then upN X i t else X) 61 = _
    rw [if_pos c]
    exact this
  · show smN (if i ≤ 60 then upN X i t else X) 61 = _
    rw [if_neg c, ht (by omega)]
    rfl
theorem sm_one {X : Nat → Nat} : ∀ n i, i < n → X i ≤ smN X n
  | 0, i, h => absurd h (by omega)
  | n + 1, i, h => by
    show X i ≤ smN X n + X n
    by_cases c : i = n
    · rw [c]; omega
    · have := sm_one (X := X) n i (by omega)
      omega
/-- the reader's arrays: X and Y laid -/
def tyS (h : Hp) (m : Nat) (X Y : Nat → Nat) : Prop := xyS h m (toI X) (toI Y) (smN X 61) (smN Y 61)
theorem xyS.ext {h : Hp} {m : Nat} {X Y X' Y' : Nat → Int} {a b a' b' : Int} (s : xyS h m X Y a b) (hx : ∀ i, i ≤ 60 → X i = X' i) (hy : ∀ i, i ≤ 60 → Y i = Y' i) (ha : a = a') (hb : b = b') : xyS h m X' Y' a' b' := ⟨by rw [← ha]; exact s.1, by rw [← hb]; exact s.2.1, fun i hi => by rw [← hx i hi]; exact s.2.2.1 i hi, fun i hi => by rw [← hy i hi]; exact s.2.2.2 i hi⟩
/-- scratch: what tryFrom writes beside what is kept -/
abbrev tcS (m : Nat) : Nat → Prop := fun z => z = m ∨ (m + 22 ≤ z ∧ z ≤ m + 24)
def tcC (h g : Hp) (m : Nat) : Prop := fi (tcS m) h g ∧ ∀ i, i ≠ 43 → i ≠ 44 → zI g m i = zI h m i
theorem tcC.tr {a b c : Hp} {m : Nat} (x : tcC a b m) (y : tcC b c m) : tcC a c m := ⟨x.1.tr y.1, fun i h1 h2 => by rw [y.2 i h1 h2, x.2 i h1 h2]⟩
theorem t_M_laid2 {d : Nat} {h : Hp} {m i k u v : Nat} {X Y X' Y' : Nat → Nat} {Q : Nat → Option Value → Hp → Prop} (hm : mO h m) (hi : i ≤ 1000) (hk : k ≤ 1000) (s : tyS h m X Y) (hX : ∀ j, j ≤ 60 → X' j = if j = i then u else X j) (hY : ∀ j, j ≤ 60 → Y' j = if j = k then v else Y j) (hq : ∀ g, fi (fun q => q = m ∨ q = m + 22 ∨ q = m + 23) h g → (∀ i, i ≠ 43 → i ≠ 44 → zI g m i = zI h m i) → tyS g m X' Y' → Q 0 none g) : PR d m_M_lay [.ref m, .int (iI i), .int (iI k), .int (iI u), .int (iI v)] h Q := by
  have sx : ∀ {X X' : Nat → Nat} {i u : Nat}, (∀ j, j ≤ 60 → X' j = if j = i then u else X j) → (∀ j, j ≤ 60 → (if i ≤ 60 then upZ (toI X) i u else toI X) j = toI X' j) ∧ (if i ≤ 60 then (smN X 61 : Int) + ((u : Int) - toI X i) else (smN X 61 : Int)) = (smN X' 61 : Int) := fun {X X' i u} hX => by
    constructor
    · intro j hj
      by_cases c : i ≤ 60
      · rw [if_pos c]
        show (if (j : Int) = (i : Int) then (u : Int) else (X j : Int)) = (X' j : Int)
        rw [hX j hj]
        by_cases z : j = i
        · rw [if_pos z, if_pos (by omega)]
        · rw [if_neg z, if_neg (by omega)]
      · rw [if_neg c]
        show (X j : Int) = (X' j : Int)
        rw [hX j hj, if_neg (by omega)]
    · have e : smN X' 61 = smN (upN X i u) 61 := smN_cg 61 fun j hj => by rw [hX j (by omega)]
      have := sm_up (X := X) (i := i) (t := u) 61
      by_cases c : i ≤ 60
      · rw [if_pos c]
        rw [if_pos (by omega), if_pos (by omega)] at this
        show (smN X 61 : Int) + ((u : Int) - (X i : Int)) = (smN X' 61 : Int)
        omega
      · rw [if_neg c]
        rw [if_neg (by omega), if_neg (by omega)] at this
        omega
  refine t_M_lay hm hi hk s fun g f e t => hq g f e (t.ext (sx hX).1 (sx hY).1 (sx hX).2 (sx hY).2)
theorem t_M_node {D : Nat} {h : Hp} {m n P Q x y low high : Nat} {tg : Nat → Nat} {J : List Pr2 → Hp → Prop} {R : Nat → Option Value → Hp → Prop} (hm : mO h m) (hn : 1 ≤ n) (hn64 : n ≤ 64) (hP : P ≤ 64) (hQ : Q ≤ 64) (hlow : low = x + y) (hx : x ≤ 60) (hy : y ≤ 60) (hhi : high ≤ 120) (htg : ∀ s, s < 130 → tg s ≤ 1000 ∧ zI h (m + 21) s = iI (tg s)) (h41 : zI h m 41 = iI P) (h42 : zI h m 42 = iI Q)
    (hJ : ∀ L g g2, J L g → mO g m → tcC g g2 m → J L g2)
    (hAdd : ∀ (L : List Pr2) (X Y : Nat → Nat) (g : Hp) (Q' : Nat → Option Value → Hp → Prop), smN X 61 = P → smN Y 61 = Q → mO g m → zI g m 41 = iI P → zI g m 42 = iI Q → tyS g m X Y → J L g → (∀ g2, fi (fun z => z = m ∨ z = m + 25 ∨ z = m + 26) g g2 → (∀ i, i ≠ 39 → i ≠ 40 → zI g2 m i = zI g m i) → J (L ++ [(X, Y)]) g2 → Q' 0 none g2) → PR (D + 1) m_M_found [.ref m] g Q') :
    ∀ (k s : Nat), k + s = high + 1 → low < s → ∀ (X Y : Nat → Nat), smN X 61 ≤ P → smN Y 61 ≤ Q → Y y ≠ 0 → (∀ i, s - y ≤ i → X i = 0) → (∀ i, s - x ≤ i → Y i = 0) → (y < s - x) →
    ∀ (L : List Pr2) (g : Hp) (l7 l8 l9 l10 : Option Value), mO g m → fi (fun z => tcS m z ∨ z = m + 25 ∨ z = m + 26) h g → (∀ i, i ≠ 39 → i ≠ 40 → i ≠ 43 → i ≠ 44 → zI g m i = zI h m i) → tyS g m X Y → zI g (m + 24) s = iI 0 → J L g →
    (∀ (g' : Hp) (l7 l8 l9 l10 : Option Value), fi (fun z => tcS m z ∨ z = m + 25 ∨ z = m + 26) h g' → (∀ i, i ≠ 39 → i ≠ 40 → i ≠ 43 → i ≠ 44 → zI g' m i = zI h m i) → tyS g' m X Y → (∀ i, i < s → zI g' (m + 24) i = zI g (m + 24) i) → J (L ++ mdL tg n P Q x y high k X Y) g' → PW (D + 2) 243 56 [some (.ref m), some (.int (iI x)), some (.int (iI n)), some (.int (iI low)), some (.int (iI high)), some (.int (iI y)), some (.int (iI ((s : Int) - 1))), l7, l8, l9, l10] [] g' R) →
    PW (D + 2) 243 56 [some (.ref m), some (.int (iI x)), some (.int (iI n)), some (.int (iI low)), some (.int (iI high)), some (.int (iI y)), some (.int (iI s)), l7, l8, l9, l10] [] g R := by
  intro k
  induction k with
  | zero =>
    intro s hs hls X Y sX sY hYy zX zY hyx L g l7 l8 l9 l10 hg f e ty t0 j K
    have M := hg.k
    have g41 : zI g m 41 = iI P := by rw [e 41 (by omega) (by omega) (by omega) (by omega)]; exact h41
    have g42 : zI g m 42 = iI Q := by rw [e 42 (by omega) (by omega) (by omega) (by omega)]; exact h42
    have e1 : (s : Int) + -1 = (s : Int) - 1 := by omega
    have em : mdL tg n P Q x y high 0 X Y = if smN X 61 = P ∧ smN Y 61 = Q then [(X, Y)] else [] := rfl
    have no : ¬ (smN X 61 = P ∧ smN Y 61 = Q) → PW (D + 2) 243 74 [some (.ref m), some (.int (iI x)), some (.int (iI n)), some (.int (iI low)), some (.int (iI high)), some (.int (iI y)), some (.int (iI s)), l7, l8, l9, l10] [] g R := fun c => by
      rw [em, if_neg c, List.append_nil] at K
      refine vs_ok 2 ?_
      rw [show ((gRes 243).drop 74).take 2 = [.iinc 6 (-1), .goto 56] from rfl]
      simp (disch := omega) only [vs_goto, vs_iinc6n, vs_iinc6i, vs_iinc6r, vs_iinc6l, vs_nil, gv_0, gv_1, gv_2, gv_3, pv_0, pv_1, va_rf_s, Nat.reduceDiv, Nat.reduceMod, Nat.reduceAdd, Nat.reduceMul, Int.reduceToNat, true_and, and_true, and_self, cP_eq, cP_ne, cP_lt, cP_ge, cP_gt, cP_le, eL_i, eL_l, eL_r, eL_n, Option.toList_none, Option.toList_some, List.nil_append, List.cons_append, kkI, llI, nnI, rrI, jjI, kkJ, llJ, nnJ, rrJ, iiJ, zIIs, zJJs, nEF, nET, and_false, false_and, jmin, jmax, catS_n, catS_i, catS_r, catS_l, Nat.reduceLeDiff, j1eq1, n21, jt0, jt1, Bool.false_eq_true, Classical.not_not, true_or, or_true, false_or, or_false, true_imp_iff, false_imp_iff, not_true_eq_false, not_false_eq_true, jif0, jif1, jifb, ltT, ltF, leT, leF, eqT, eqF, jlt, jle, jeq, jlt0, jle0, jeq0, jge0, jgt0, jinB, jnat, clt, cle, ceq, cgt, cge, lI_add, lI_sub, lI_mul, jadd, jsub, jmul, jneg, jtol, b010, b011, pv_2t, Int.toNat_natCast, Option.some.injEq, exists_eq_left', if_true, if_false, e1]
      exact K g _ _ _ _ f e ty (fun _ _ => rfl) j
    by_cases c1 : smN X 61 = P
    · have i1 : ((smN X 61 : Nat) : Int) = (P : Int) := by omega
      by_cases c2 : smN Y 61 = Q
      · have i2 : ((smN Y 61 : Nat) : Int) = (Q : Int) := by omega
        rw [em, if_pos ⟨c1, c2⟩] at K
        refine vs_ok 3 ?_
        rw [show ((gRes 243).drop 56).take 3 = [.iload 6, .iload 3, .if_icmp .le 224] from rfl]
        simp (disch := omega) only [vs_if_icmp, vs_iload3, vs_iload6, vs_nil, gv_0, gv_1, gv_2, gv_3, pv_0, pv_1, va_rf_s, Nat.reduceDiv, Nat.reduceMod, Nat.reduceAdd, Nat.reduceMul, Int.reduceToNat, true_and, and_true, and_self, cP_eq, cP_ne, cP_lt, cP_ge, cP_gt, cP_le, eL_i, eL_l, eL_r, eL_n, Option.toList_none, Option.toList_some, List.nil_append, List.cons_append, kkI, llI, nnI, rrI, jjI, kkJ, llJ, nnJ, rrJ, iiJ, zIIs, zJJs, nEF, nET, and_false, false_and, jmin, jmax, catS_n, catS_i, catS_r, catS_l, Nat.reduceLeDiff, j1eq1, n21, jt0, jt1, Bool.false_eq_true, Classical.not_not, true_or, or_true, false_or, or_false, true_imp_iff, false_imp_iff, not_true_eq_false, not_false_eq_true, jif0, jif1, jifb, ltT, ltF, leT, leF, eqT, eqF, jlt, jle, jeq, jlt0, jle0, jeq0, jge0, jgt0, jinB, jnat, clt, cle, ceq, cgt, cge, lI_add, lI_sub, lI_mul, jadd, jsub, jmul, jneg, jtol, b010, b011, pv_2t, Int.toNat_natCast, Option.some.injEq, exists_eq_left', if_true, if_false]
        refine vs_ok 3 ?_
        rw [show ((gRes 243).drop 59).take 3 = [.iload 6, .iload 4, .if_icmp .le 76] from rfl]
        simp (disch := omega) only [vs_if_icmp, vs_iload4, vs_iload6, vs_nil, gv_0, gv_1, gv_2, gv_3, pv_0, pv_1, va_rf_s, Nat.reduceDiv, Nat.reduceMod, Nat.reduceAdd, Nat.reduceMul, Int.reduceToNat, true_and, and_true, and_self, cP_eq, cP_ne, cP_lt, cP_ge, cP_gt, cP_le, eL_i, eL_l, eL_r, eL_n, Option.toList_none, Option.toList_some, List.nil_append, List.cons_append, kkI, llI, nnI, rrI, jjI, kkJ, llJ, nnJ, rrJ, iiJ, zIIs, zJJs, nEF, nET, and_false, false_and, jmin, jmax, catS_n, catS_i, catS_r, catS_l, Nat.reduceLeDiff, j1eq1, n21, jt0, jt1, Bool.false_eq_true, Classical.not_not, true_or, or_true, false_or, or_false, true_imp_iff, false_imp_iff, not_true_eq_false, not_false_eq_true, jif0, jif1, jifb, ltT, ltF, leT, leF, eqT, eqF, jlt, jle, jeq, jlt0, jle0, jeq0, jge0, jgt0, jinB, jnat, clt, cle, ceq, cgt, cge, lI_add, lI_sub, lI_mul, jadd, jsub, jmul, jneg, jtol, b010, b011, pv_2t, Int.toNat_natCast, Option.some.injEq, exists_eq_left', if_true, if_false]
        refine vs_ok 5 ?_
        rw [show ((gRes 243).drop 62).take 5 = [.aload 0, .getfield 12430, .aload 0, .getfield 12410, .if_icmp .ne 74] from rfl]
        simp (disch := omega) only [vs_if_icmp, vs_getfield, vs_aload0, vs_nil, gv_0, gv_1, gv_2, gv_3, pv_0, pv_1, va_rf_s, Nat.reduceDiv, Nat.reduceMod, Nat.reduceAdd, Nat.reduceMul, Int.reduceToNat, true_and, and_true, and_self, cP_eq, cP_ne, cP_lt, cP_ge, cP_gt, cP_le, eL_i, eL_l, eL_r, eL_n, Option.toList_none, Option.toList_some, List.nil_append, List.cons_append, kkI, llI, nnI, rrI, jjI, kkJ, llJ, nnJ, rrJ, iiJ, zIIs, zJJs, nEF, nET, and_false, false_and, jmin, jmax, catS_n, catS_i, catS_r, catS_l, Nat.reduceLeDiff, j1eq1, n21, jt0, jt1, Bool.false_eq_true, Classical.not_not, true_or, or_true, false_or, or_false, true_imp_iff, false_imp_iff, not_true_eq_false, not_false_eq_true, jif0, jif1, jifb, ltT, ltF, leT, leF, eqT, eqF, jlt, jle, jeq, jlt0, jle0, jeq0, jge0, jgt0, jinB, jnat, clt, cle, ceq, cgt, cge, lI_add, lI_sub, lI_mul, jadd, jsub, jmul, jneg, jtol, b010, b011, pv_2t, Int.toNat_natCast, Option.some.injEq, exists_eq_left', if_true, if_false, M, ty.1, g41]
        refine vs_ok 5 ?_
        rw [show ((gRes 243).drop 67).take 5 = [.aload 0, .getfield 12440, .aload 0, .getfield 12420, .if_icmp .ne 74] from rfl]
        simp (disch := omega) only [vs_if_icmp, vs_getfield, vs_aload0, vs_nil, gv_0, gv_1, gv_2, gv_3, pv_0, pv_1, va_rf_s, Nat.reduceDiv, Nat.reduceMod, Nat.reduceAdd, Nat.reduceMul, Int.reduceToNat, true_and, and_true, and_self, cP_eq, cP_ne, cP_lt, cP_ge, cP_gt, cP_le, eL_i, eL_l, eL_r, eL_n, Option.toList_none, Option.toList_some, List.nil_append, List.cons_append, kkI, llI, nnI, rrI, jjI, kkJ, llJ, nnJ, rrJ, iiJ, zIIs, zJJs, nEF, nET, and_false, false_and, jmin, jmax, catS_n, catS_i, catS_r, catS_l, Nat.reduceLeDiff, j1eq1, n21, jt0, jt1, Bool.false_eq_true, Classical.not_not, true_or, or_true, false_or, or_false, true_imp_iff, false_imp_iff, not_true_eq_false, not_false_eq_true, jif0, jif1, jifb, ltT, ltF, leT, leF, eqT, eqF, jlt, jle, jeq, jlt0, jle0, jeq0, jge0, jgt0, jinB, jnat, clt, cle, ceq, cgt, cge, lI_add, lI_sub, lI_mul, jadd, jsub, jmul, jneg, jtol, b010, b011, pv_2t, Int.toNat_natCast, Option.some.injEq, exists_eq_left', if_true, if_false, M, ty.2.1, g42]
        refine vs_ok 1 ?_
        rw [show ((gRes 243).drop 72).take 1 = [.aload 0] from rfl]
        simp (disch := omega) only [vs_aload0, vs_nil, gv_0, gv_1, gv_2, gv_3, pv_0, pv_1, va_rf_s, Nat.reduceDiv, Nat.reduceMod, Nat.reduceAdd, Nat.reduceMul, Int.reduceToNat, true_and, and_true, and_self, cP_eq, cP_ne, cP_lt, cP_ge, cP_gt, cP_le, eL_i, eL_l, eL_r, eL_n, Option.toList_none, Option.toList_some, List.nil_append, List.cons_append, kkI, llI, nnI, rrI, jjI, kkJ, llJ, nnJ, rrJ, iiJ, zIIs, zJJs, nEF, nET, and_false, false_and, jmin, jmax, catS_n, catS_i, catS_r, catS_l, Nat.reduceLeDiff, j1eq1, n21, jt0, jt1, Bool.false_eq_true, Classical.not_not, true_or, or_true, false_or, or_false, true_imp_iff, false_imp_iff, not_true_eq_false, not_false_eq_true, jif0, jif1, jifb, ltT, ltF, leT, leF, eqT, eqF, jlt, jle, jeq, jlt0, jle0, jeq0, jge0, jgt0, jinB, jnat, clt, cle, ceq, cgt, cge, lI_add, lI_sub, lI_mul, jadd, jsub, jmul, jneg, jtol, b010, b011, pv_2t, Int.toNat_natCast, Option.some.injEq, exists_eq_left', if_true, if_false]
        refine PW.iv rfl rfl rfl M.1 M.2 (le_b rfl) (le_b rfl) ?_
        refine hAdd L X Y g _ c1 c2 hg g41 g42 ty j fun g2 f2 e2 j2 => ⟨rfl, ⟨f2.1.2.2.1, rfl⟩, ?_⟩
        have r := f2.1.2.2.2.2.2.1
        refine vs_ok 2 ?_
        rw [show ((gRes 243).drop 74).take 2 = [.iinc 6 (-1), .goto 56] from rfl]
        simp (disch := omega) only [vs_goto, vs_iinc6n, vs_iinc6i, vs_iinc6r, vs_iinc6l, vs_nil, gv_0, gv_1, gv_2, gv_3, pv_0, pv_1, va_rf_s, Nat.reduceDiv, Nat.reduceMod, Nat.reduceAdd, Nat.reduceMul, Int.reduceToNat, true_and, and_true, and_self, cP_eq, cP_ne, cP_lt, cP_ge, cP_gt, cP_le, eL_i, eL_l, eL_r, eL_n, Option.toList_none, Option.toList_some, List.nil_append, List.cons_append, kkI, llI, nnI, rrI, jjI, kkJ, llJ, nnJ, rrJ, iiJ, zIIs, zJJs, nEF, nET, and_false, false_and, jmin, jmax, catS_n, catS_i, catS_r, catS_l, Nat.reduceLeDiff, j1eq1, n21, jt0, jt1, Bool.false_eq_true, Classical.not_not, true_or, or_true, false_or, or_false, true_imp_iff, false_imp_iff, not_true_eq_false, not_false_eq_true, jif0, jif1, jifb, ltT, ltF, leT, leF, eqT, eqF, jlt, jle, jeq, jlt0, jle0, jeq0, jge0, jgt0, jinB, jnat, clt, cle, ceq, cgt, cge, lI_add, lI_sub, lI_mul, jadd, jsub, jmul, jneg, jtol, b010, b011, pv_2t, Int.toNat_natCast, Option.some.injEq, exists_eq_left', if_true, if_false, e1]
        refine K g2 _ _ _ _ (f.tr (f2.wk fun z h => by omega)) (fun i h1 h2 h3 h4 => by rw [e2 i h1 h2, e i h1 h2 h3 h4]) ⟨by rw [e2 43 (by omega) (by omega)]; exact ty.1, by rw [e2 44 (by omega) (by omega)]; exact ty.2.1, fun i hi => by rw [r (m + 22) (by omega)]; exact ty.2.2.1 i hi, fun i hi => by rw [r (m + 23) (by omega)]; exact ty.2.2.2 i hi⟩ (fun i _ => by rw [r (m + 24) (by omega)]) j2
      · have i2 : ¬ ((smN Y 61 : Nat) : Int) = (Q : Int) := by omega
        refine vs_ok 3 ?_
        rw [show ((gRes 243).drop 56).take 3 = [.iload 6, .iload 3, .if_icmp .le 224] from rfl]
        simp (disch := omega) only [vs_if_icmp, vs_iload3, vs_iload6, vs_nil, gv_0, gv_1, gv_2, gv_3, pv_0, pv_1, va_rf_s, Nat.reduceDiv, Nat.reduceMod, Nat.reduceAdd, Nat.reduceMul, Int.reduceToNat, true_and, and_true, and_self, cP_eq, cP_ne, cP_lt, cP_ge, cP_gt, cP_le, eL_i, eL_l, eL_r, eL_n, Option.toList_none, Option.toList_some, List.nil_append, List.cons_append, kkI, llI, nnI, rrI, jjI, kkJ, llJ, nnJ, rrJ, iiJ, zIIs, zJJs, nEF, nET, and_false, false_and, jmin, jmax, catS_n, catS_i, catS_r, catS_l, Nat.reduceLeDiff, j1eq1, n21, jt0, jt1, Bool.false_eq_true, Classical.not_not, true_or, or_true, false_or, or_false, true_imp_iff, false_imp_iff, not_true_eq_false, not_false_eq_true, jif0, jif1, jifb, ltT, ltF, leT, leF, eqT, eqF, jlt, jle, jeq, jlt0, jle0, jeq0, jge0, jgt0, jinB, jnat, clt, cle, ceq, cgt, cge, lI_add, lI_sub, lI_mul, jadd, jsub, jmul, jneg, jtol, b010, b011, pv_2t, Int.toNat_natCast, Option.some.injEq, exists_eq_left', if_true, if_false]
        refine vs_ok 3 ?_
        rw [show ((gRes 243).drop 59).take 3 = [.iload 6, .iload 4, .if_icmp .le 76] from rfl]
        simp (disch := omega) only [vs_if_icmp, vs_iload4, vs_iload6, vs_nil, gv_0, gv_1, gv_2, gv_3, pv_0, pv_1, va_rf_s, Nat.reduceDiv, Nat.reduceMod, Nat.reduceAdd, Nat.reduceMul, Int.reduceToNat, true_and, and_true, and_self, cP_eq, cP_ne, cP_lt, cP_ge, cP_gt, cP_le, eL_i, eL_l, eL_r, eL_n, Option.toList_none, Option.toList_some, List.nil_append, List.cons_append, kkI, llI, nnI, rrI, jjI, kkJ, llJ, nnJ, rrJ, iiJ, zIIs, zJJs, nEF, nET, and_false, false_and, jmin, jmax, catS_n, catS_i, catS_r, catS_l, Nat.reduceLeDiff, j1eq1, n21, jt0, jt1, Bool.false_eq_true, Classical.not_not, true_or, or_true, false_or, or_false, true_imp_iff, false_imp_iff, not_true_eq_false, not_false_eq_true, jif0, jif1, jifb, ltT, ltF, leT, leF, eqT, eqF, jlt, jle, jeq, jlt0, jle0, jeq0, jge0, jgt0, jinB, jnat, clt, cle, ceq, cgt, cge, lI_add, lI_sub, lI_mul, jadd, jsub, jmul, jneg, jtol, b010, b011, pv_2t, Int.toNat_natCast, Option.some.injEq, exists_eq_left', if_true, if_false]
        refine vs_ok 5 ?_
        rw [show ((gRes 243).drop 62).take 5 = [.aload 0, .getfield 12430, .aload 0, .getfield 12410, .if_icmp .ne 74] from rfl]
        simp (disch := omega) only [vs_if_icmp, vs_getfield, vs_aload0, vs_nil, gv_0, gv_1, gv_2, gv_3, pv_0, pv_1, va_rf_s, Nat.reduceDiv, Nat.reduceMod, Nat.reduceAdd, Nat.reduceMul, Int.reduceToNat, true_and, and_true, and_self, cP_eq, cP_ne, cP_lt, cP_ge, cP_gt, cP_le, eL_i, eL_l, eL_r, eL_n, Option.toList_none, Option.toList_some, List.nil_append, List.cons_append, kkI, llI, nnI, rrI, jjI, kkJ, llJ, nnJ, rrJ, iiJ, zIIs, zJJs, nEF, nET, and_false, false_and, jmin, jmax, catS_n, catS_i, catS_r, catS_l, Nat.reduceLeDiff, j1eq1, n21, jt0, jt1, Bool.false_eq_true, Classical.not_not, true_or, or_true, false_or, or_false, true_imp_iff, false_imp_iff, not_true_eq_false, not_false_eq_true, jif0, jif1, jifb, ltT, ltF, leT, leF, eqT, eqF, jlt, jle, jeq, jlt0, jle0, jeq0, jge0, jgt0, jinB, jnat, clt, cle, ceq, cgt, cge, lI_add, lI_sub, lI_mul, jadd, jsub, jmul, jneg, jtol, b010, b011, pv_2t, Int.toNat_natCast, Option.some.injEq, exists_eq_left', if_true, if_false, M, ty.1, g41]
        refine vs_ok 5 ?_
        rw [show ((gRes 243).drop 67).take 5 = [.aload 0, .getfield 12440, .aload 0, .getfield 12420, .if_icmp .ne 74] from rfl]
        simp (disch := omega) only [vs_if_icmp, vs_getfield, vs_aload0, vs_nil, gv_0, gv_1, gv_2, gv_3, pv_0, pv_1, va_rf_s, Nat.reduceDiv, Nat.reduceMod, Nat.reduceAdd, Nat.reduceMul, Int.reduceToNat, true_and, and_true, and_self, cP_eq, cP_ne, cP_lt, cP_ge, cP_gt, cP_le, eL_i, eL_l, eL_r, eL_n, Option.toList_none, Option.toList_some, List.nil_append, List.cons_append, kkI, llI, nnI, rrI, jjI, kkJ, llJ, nnJ, rrJ, iiJ, zIIs, zJJs, nEF, nET, and_false, false_and, jmin, jmax, catS_n, catS_i, catS_r, catS_l, Nat.reduceLeDiff, j1eq1, n21, jt0, jt1, Bool.false_eq_true, Classical.not_not, true_or, or_true, false_or, or_false, true_imp_iff, false_imp_iff, not_true_eq_false, not_false_eq_true, jif0, jif1, jifb, ltT, ltF, leT, leF, eqT, eqF, jlt, jle, jeq, jlt0, jle0, jeq0, jge0, jgt0, jinB, jnat, clt, cle, ceq, cgt, cge, lI_add, lI_sub, lI_mul, jadd, jsub, jmul, jneg, jtol, b010, b011, pv_2t, Int.toNat_natCast, Option.some.injEq, exists_eq_left', if_true, if_false, M, ty.2.1, g42]
        exact no fun z => c2 z.2
    · have i1 : ¬ ((smN X 61 : Nat) : Int) = (P : Int) := by omega
      refine vs_ok 3 ?_
      rw [show ((gRes 243).drop 56).take 3 = [.iload 6, .iload 3, .if_icmp .le 224] from rfl]
      simp (disch := omega) only [vs_if_icmp, vs_iload3, vs_iload6, vs_nil, gv_0, gv_1, gv_2, gv_3, pv_0, pv_1, va_rf_s, Nat.reduceDiv, Nat.reduceMod, Nat.reduceAdd, Nat.reduceMul, Int.reduceToNat, true_and, and_true, and_self, cP_eq, cP_ne, cP_lt, cP_ge, cP_gt, cP_le, eL_i, eL_l, eL_r, eL_n, Option.toList_none, Option.toList_some, List.nil_append, List.cons_append, kkI, llI, nnI, rrI, jjI, kkJ, llJ, nnJ, rrJ, iiJ, zIIs, zJJs, nEF, nET, and_false, false_and, jmin, jmax, catS_n, catS_i, catS_r, catS_l, Nat.reduceLeDiff, j1eq1, n21, jt0, jt1, Bool.false_eq_true, Classical.not_not, true_or, or_true, false_or, or_false, true_imp_iff, false_imp_iff, not_true_eq_false, not_false_eq_true, jif0, jif1, jifb, ltT, ltF, leT, leF, eqT, eqF, jlt, jle, jeq, jlt0, jle0, jeq0, jge0, jgt0, jinB, jnat, clt, cle, ceq, cgt, cge, lI_add, lI_sub, lI_mul, jadd, jsub, jmul, jneg, jtol, b010, b011, pv_2t, Int.toNat_natCast, Option.some.injEq, exists_eq_left', if_true, if_false]
      refine vs_ok 3 ?_
      rw [show ((gRes 243).drop 59).take 3 = [.iload 6, .iload 4, .if_icmp .le 76] from rfl]
      simp (disch := omega) only [vs_if_icmp, vs_iload4, vs_iload6, vs_nil, gv_0, gv_1, gv_2, gv_3, pv_0, pv_1, va_rf_s, Nat.reduceDiv, Nat.reduceMod, Nat.reduceAdd, Nat.reduceMul, Int.reduceToNat, true_and, and_true, and_self, cP_eq, cP_ne, cP_lt, cP_ge, cP_gt, cP_le, eL_i, eL_l, eL_r, eL_n, Option.toList_none, Option.toList_some, List.nil_append, List.cons_append, kkI, llI, nnI, rrI, jjI, kkJ, llJ, nnJ, rrJ, iiJ, zIIs, zJJs, nEF, nET, and_false, false_and, jmin, jmax, catS_n, catS_i, catS_r, catS_l, Nat.reduceLeDiff, j1eq1, n21, jt0, jt1, Bool.false_eq_true, Classical.not_not, true_or, or_true, false_or, or_false, true_imp_iff, false_imp_iff, not_true_eq_false, not_false_eq_true, jif0, jif1, jifb, ltT, ltF, leT, leF, eqT, eqF, jlt, jle, jeq, jlt0, jle0, jeq0, jge0, jgt0, jinB, jnat, clt, cle, ceq, cgt, cge, lI_add, lI_sub, lI_mul, jadd, jsub, jmul, jneg, jtol, b010, b011, pv_2t, Int.toNat_natCast, Option.some.injEq, exists_eq_left', if_true, if_false]
      refine vs_ok 5 ?_
      rw [show ((gRes 243).drop 62).take 5 = [.aload 0, .getfield 12430, .aload 0, .getfield 12410, .if_icmp .ne 74] from rfl]
      simp (disch := omega) only [vs_if_icmp, vs_getfield, vs_aload0, vs_nil, gv_0, gv_1, gv_2, gv_3, pv_0, pv_1, va_rf_s, Nat.reduceDiv, Nat.reduceMod, Nat.reduceAdd, Nat.reduceMul, Int.reduceToNat, true_and, and_true, and_self, cP_eq, cP_ne, cP_lt, cP_ge, cP_gt, cP_le, eL_i, eL_l, eL_r, eL_n, Option.toList_none, Option.toList_some, List.nil_append, List.cons_append, kkI, llI, nnI, rrI, jjI, kkJ, llJ, nnJ, rrJ, iiJ, zIIs, zJJs, nEF, nET, and_false, false_and, jmin, jmax, catS_n, catS_i, catS_r, catS_l, Nat.reduceLeDiff, j1eq1, n21, jt0, jt1, Bool.false_eq_true, Classical.not_not, true_or, or_true, false_or, or_false, true_imp_iff, false_imp_iff, not_true_eq_false, not_false_eq_true, jif0, jif1, jifb, ltT, ltF, leT, leF, eqT, eqF, jlt, jle, jeq, jlt0, jle0, jeq0, jge0, jgt0, jinB, jnat, clt, cle, ceq, cgt, cge, lI_add, lI_sub, lI_mul, jadd, jsub, jmul, jneg, jtol, b010, b011, pv_2t, Int.toNat_natCast, Option.some.injEq, exists_eq_left', if_true, if_false, M, ty.1, g41]
      exact no fun z => c1 z.1
  | succ k ih =>
    intro s hs hls X Y sX sY hYy zX zY hyx L g l7 l8 l9 l10 hg f e ty t0 j K
    have esk : high - k = s := by omega
    have eY : smN Y 61 ≤ 64 := by omega
    have Yb : Y y ≤ 64 := Nat.le_trans (sm_one 61 y (by omega)) eY
    have em : mdL tg n P Q x y high (k + 1) X Y = if cvN X Y s ≤ tg s then opL n P Q x y s (mdL tg n P Q x y high k) X Y (tg s - cvN X Y s) (tg s - cvN X Y s + 1) 0 else [] := by
      rw [← esk]
      rfl
    have esy : (s : Int) - (y : Int) = ((s - y : Nat) : Int) := by omega
    have esx : (s : Int) - (x : Int) = ((s - x : Nat) : Int) := by omega
    have s121 : s ≤ 120 := by omega
    have g0t : ∀ i, i < s → zI g (m + 24) i = zI g (m + 24) i := fun _ _ => rfl
    have tgs := htg s (by omega)
    have esum : smN X 61 ≤ 64 := by omega
    have xb : ∀ v, v < 61 → X v ≤ 64 := fun v hv => Nat.le_trans (sm_one 61 v hv) esum
    have yb : ∀ v, v < 61 → Y v ≤ 64 := fun v hv => Nat.le_trans (sm_one 61 v hv) eY
    -- row 121: the options from t on
    have nz : ¬ Int32.ofInt (n : Int) = 0 := fun z => by
      have := (zeq0 (x := (n : Int)) (by constructor <;> omega)).mp z
      omega
    -- no more of them
    have p208 : ∀ (L : List Pr2) (g' : Hp) (l7 l9 l10 : Option Value) (l7' : Int32), fi (fun z => tcS m z ∨ z = m + 25 ∨ z = m + 26) h g' → (∀ i, i ≠ 39 → i ≠ 40 → i ≠ 43 → i ≠ 44 → zI g' m i = zI h m i) → tyS g' m X Y → (∀ i, i < s → zI g' (m + 24) i = zI g (m + 24) i) → J (L) g' → (∀ l7 l8 l9 l10 : Option Value, PW (D + 2) 243 56 [some (.ref m), some (.int (iI x)), some (.int (iI n)), some (.int (iI low)), some (.int (iI high)), some (.int (iI y)), some (.int (iI ((s : Int) - 1))), l7, l8, l9, l10] [] g' R) → PW (D + 2) 243 208 [some (.ref m), some (.int (iI x)), some (.int (iI n)), some (.int (iI low)), some (.int (iI high)), some (.int (iI y)), some (.int (iI s)), some (.int l7'), some (.int (iI 0)), l9, l10] [] g' R := fun L g' l7 l9 l10 l7' f e ty tr j k => by
      have e1 : (s : Int) + -1 = (s : Int) - 1 := by omega
      refine vs_ok 3 ?_
      rw [show ((gRes 243).drop 208).take 3 = [.iload 6, .iload 8, .ifCond .eq 213] from rfl]
      simp (disch := omega) only [vs_ifCond, vs_iload6, vs_iload8, vs_nil, gv_0, gv_1, gv_2, gv_3, pv_0, pv_1, va_rf_s, Nat.reduceDiv, Nat.reduceMod, Nat.reduceAdd, Nat.reduceMul, Int.reduceToNat, true_and, and_true, and_self, cP_eq, cP_ne, cP_lt, cP_ge, cP_gt, cP_le, eL_i, eL_l, eL_r, eL_n, Option.toList_none, Option.toList_some, List.nil_append, List.cons_append, kkI, llI, nnI, rrI, jjI, kkJ, llJ, nnJ, rrJ, iiJ, zIIs, zJJs, nEF, nET, and_false, false_and, jmin, jmax, catS_n, catS_i, catS_r, catS_l, Nat.reduceLeDiff, j1eq1, n21, jt0, jt1, Bool.false_eq_true, Classical.not_not, true_or, or_true, false_or, or_false, true_imp_iff, false_imp_iff, not_true_eq_false, not_false_eq_true, jif0, jif1, jifb, ltT, ltF, leT, leF, eqT, eqF, jlt, jle, jeq, jlt0, jle0, jeq0, jge0, jgt0, jinB, jnat, clt, cle, ceq, cgt, cge, lI_add, lI_sub, lI_mul, jadd, jsub, jmul, jneg, jtol, b010, b011, pv_2t, Int.toNat_natCast, Option.some.injEq, exists_eq_left', if_true, if_false]
      refine vs_ok 3 ?_
      rw [show ((gRes 243).drop 213).take 3 = [.iconst (-1), .iadd, .istore 6] from rfl]
      rw [vs_iconst, vs_iadd, jadd, e1]
      simp only [vs_istore6i, vs_nil]
      refine vs_ok 2 ?_
      rw [show ((gRes 243).drop 216).take 2 = [.iload 8, .ifCond .eq 223] from rfl]
      simp (disch := omega) only [vs_ifCond, vs_iload8, vs_nil, gv_0, gv_1, gv_2, gv_3, pv_0, pv_1, va_rf_s, Nat.reduceDiv, Nat.reduceMod, Nat.reduceAdd, Nat.reduceMul, Int.reduceToNat, true_and, and_true, and_self, cP_eq, cP_ne, cP_lt, cP_ge, cP_gt, cP_le, eL_i, eL_l, eL_r, eL_n, Option.toList_none, Option.toList_some, List.nil_append, List.cons_append, kkI, llI, nnI, rrI, jjI, kkJ, llJ, nnJ, rrJ, iiJ, zIIs, zJJs, nEF, nET, and_false, false_and, jmin, jmax, catS_n, catS_i, catS_r, catS_l, Nat.reduceLeDiff, j1eq1, n21, jt0, jt1, Bool.false_eq_true, Classical.not_not, true_or, or_true, false_or, or_false, true_imp_iff, false_imp_iff, not_true_eq_false, not_false_eq_true, jif0, jif1, jifb, ltT, ltF, leT, leF, eqT, eqF, jlt, jle, jeq, jlt0, jle0, jeq0, jge0, jgt0, jinB, jnat, clt, cle, ceq, cgt, cge, lI_add, lI_sub, lI_mul, jadd, jsub, jmul, jneg, jtol, b010, b011, pv_2t, Int.toNat_natCast, Option.some.injEq, exists_eq_left', if_true, if_false]
      refine vs_ok 1 ?_
      rw [show ((gRes 243).drop 223).take 1 = [.goto 56] from rfl]
      simp (disch := omega) only [vs_goto, vs_nil, gv_0, gv_1, gv_2, gv_3, pv_0, pv_1, va_rf_s, Nat.reduceDiv, Nat.reduceMod, Nat.reduceAdd, Nat.reduceMul, Int.reduceToNat, true_and, and_true, and_self, cP_eq, cP_ne, cP_lt, cP_ge, cP_gt, cP_le, eL_i, eL_l, eL_r, eL_n, Option.toList_none, Option.toList_some, List.nil_append, List.cons_append, kkI, llI, nnI, rrI, jjI, kkJ, llJ, nnJ, rrJ, iiJ, zIIs, zJJs, nEF, nET, and_false, false_and, jmin, jmax, catS_n, catS_i, catS_r, catS_l, Nat.reduceLeDiff, j1eq1, n21, jt0, jt1, Bool.false_eq_true, Classical.not_not, true_or, or_true, false_or, or_false, true_imp_iff, false_imp_iff, not_true_eq_false, not_false_eq_true, jif0, jif1, jifb, ltT, ltF, leT, leF, eqT, eqF, jlt, jle, jeq, jlt0, jle0, jeq0, jge0, jgt0, jinB, jnat, clt, cle, ceq, cgt, cge, lI_add, lI_sub, lI_mul, jadd, jsub, jmul, jneg, jtol, b010, b011, pv_2t, Int.toNat_natCast, Option.some.injEq, exists_eq_left', if_true, if_false]
      exact k _ _ _ _
    -- from row 56 to row 121
    have toLo : ∀ (X1 Y1 : Nat → Nat) (g1 : Hp) (l7 l8 l9 l10 : Option Value), mO g1 m → fi (fun z => tcS m z ∨ z = m + 25 ∨ z = m + 26) h g1 → tyS g1 m X1 Y1 → (∀ i, i ≤ 60 → i ≠ s - y → X1 i = X i) → (∀ i, i ≤ 60 → i ≠ s - x → Y1 i = Y i) → (∀ g2 l9 l10, fi (fun q => q = m ∨ q = m + 22 ∨ q = m + 23) g1 g2 → (∀ i, i ≠ 43 → i ≠ 44 → zI g2 m i = zI g1 m i) → tyS g2 m X Y → PW (D + 2) 243 121 [some (.ref m), some (.int (iI x)), some (.int (iI n)), some (.int (iI low)), some (.int (iI high)), some (.int (iI y)), some (.int (iI s)), some (.int (iI ((tg s : Int) - (cvN X Y s : Int)))), some (.int (iI 0)), l9, l10] [] g2 R) → PW (D + 2) 243 56 [some (.ref m), some (.int (iI x)), some (.int (iI n)), some (.int (iI low)), some (.int (iI high)), some (.int (iI y)), some (.int (iI s)), l7, l8, l9, l10] [] g1 R := fun X1 Y1 g1 l7 l8 l9 l10 hg1 f1 ty1 hX hY K2 => by
      have M1 := hg1.k
      refine vs_ok 3 ?_
      rw [show ((gRes 243).drop 56).take 3 = [.iload 6, .iload 3, .if_icmp .le 224] from rfl]
      simp (disch := omega) only [vs_if_icmp, vs_iload3, vs_iload6, vs_nil, gv_0, gv_1, gv_2, gv_3, pv_0, pv_1, va_rf_s, Nat.reduceDiv, Nat.reduceMod, Nat.reduceAdd, Nat.reduceMul, Int.reduceToNat, true_and, and_true, and_self, cP_eq, cP_ne, cP_lt, cP_ge, cP_gt, cP_le, eL_i, eL_l, eL_r, eL_n, Option.toList_none, Option.toList_some, List.nil_append, List.cons_append, kkI, llI, nnI, rrI, jjI, kkJ, llJ, nnJ, rrJ, iiJ, zIIs, zJJs, nEF, nET, and_false, false_and, jmin, jmax, catS_n, catS_i, catS_r, catS_l, Nat.reduceLeDiff, j1eq1, n21, jt0, jt1, Bool.false_eq_true, Classical.not_not, true_or, or_true, false_or, or_false, true_imp_iff, false_imp_iff, not_true_eq_false, not_false_eq_true, jif0, jif1, jifb, ltT, ltF, leT, leF, eqT, eqF, jlt, jle, jeq, jlt0, jle0, jeq0, jge0, jgt0, jinB, jnat, clt, cle, ceq, cgt, cge, lI_add, lI_sub, lI_mul, jadd, jsub, jmul, jneg, jtol, b010, b011, pv_2t, Int.toNat_natCast, Option.some.injEq, exists_eq_left', if_true, if_false]
      refine vs_ok 3 ?_
      rw [show ((gRes 243).drop 59).take 3 = [.iload 6, .iload 4, .if_icmp .le 76] from rfl]
      simp (disch := omega) only [vs_if_icmp, vs_iload4, vs_iload6, vs_nil, gv_0, gv_1, gv_2, gv_3, pv_0, pv_1, va_rf_s, Nat.reduceDiv, Nat.reduceMod, Nat.reduceAdd, Nat.reduceMul, Int.reduceToNat, true_and, and_true, and_self, cP_eq, cP_ne, cP_lt, cP_ge, cP_gt, cP_le, eL_i, eL_l, eL_r, eL_n, Option.toList_none, Option.toList_some, List.nil_append, List.cons_append, kkI, llI, nnI, rrI, jjI, kkJ, llJ, nnJ, rrJ, iiJ, zIIs, zJJs, nEF, nET, and_false, false_and, jmin, jmax, catS_n, catS_i, catS_r, catS_l, Nat.reduceLeDiff, j1eq1, n21, jt0, jt1, Bool.false_eq_true, Classical.not_not, true_or, or_true, false_or, or_false, true_imp_iff, false_imp_iff, not_true_eq_false, not_false_eq_true, jif0, jif1, jifb, ltT, ltF, leT, leF, eqT, eqF, jlt, jle, jeq, jlt0, jle0, jeq0, jge0, jgt0, jinB, jnat, clt, cle, ceq, cgt, cge, lI_add, lI_sub, lI_mul, jadd, jsub, jmul, jneg, jtol, b010, b011, pv_2t, Int.toNat_natCast, Option.some.injEq, exists_eq_left', if_true, if_false]
      refine vs_ok 9 ?_
      rw [show ((gRes 243).drop 76).take 9 = [.aload 0, .iload 6, .iload 5, .isub, .iload 6, .iload 1, .isub, .iconst 0, .iconst 0] from rfl]
      simp (disch := omega) only [vs_isub, vs_iconst, vs_aload0, vs_iload1, vs_iload5, vs_iload6, vs_nil, gv_0, gv_1, gv_2, gv_3, pv_0, pv_1, va_rf_s, Nat.reduceDiv, Nat.reduceMod, Nat.reduceAdd, Nat.reduceMul, Int.reduceToNat, true_and, and_true, and_self, cP_eq, cP_ne, cP_lt, cP_ge, cP_gt, cP_le, eL_i, eL_l, eL_r, eL_n, Option.toList_none, Option.toList_some, List.nil_append, List.cons_append, kkI, llI, nnI, rrI, jjI, kkJ, llJ, nnJ, rrJ, iiJ, zIIs, zJJs, nEF, nET, and_false, false_and, jmin, jmax, catS_n, catS_i, catS_r, catS_l, Nat.reduceLeDiff, j1eq1, n21, jt0, jt1, Bool.false_eq_true, Classical.not_not, true_or, or_true, false_or, or_false, true_imp_iff, false_imp_iff, not_true_eq_false, not_false_eq_true, jif0, jif1, jifb, ltT, ltF, leT, leF, eqT, eqF, jlt, jle, jeq, jlt0, jle0, jeq0, jge0, jgt0, jinB, jnat, clt, cle, ceq, cgt, cge, lI_add, lI_sub, lI_mul, jadd, jsub, jmul, jneg, jtol, b010, b011, pv_2t, Int.toNat_natCast, Option.some.injEq, exists_eq_left', if_true, if_false, esy, esx]
      refine PW.iv rfl rfl rfl M1.1 M1.2 (le_b rfl) (le_b rfl) ?_
      refine t_M_laid2 (i := s - y) (k := s - x) (u := 0) (v := 0) (X' := X) (Y' := Y) hg1 (by omega) (by omega) ty1 (fun i hi => ?_) (fun i hi => ?_) fun g2 f2 e2 ty2 => ⟨rfl, ⟨f2.1.2.2.1, rfl⟩, ?_⟩
      · by_cases z : i = s - y
        · rw [if_pos z]; exact zX i (by omega)
        · rw [if_neg z]; exact (hX i hi z).symm
      · by_cases z : i = s - x
        · rw [if_pos z]; exact zY i (by omega)
        · rw [if_neg z]; exact (hY i hi z).symm
      have hg2 := hg1.fi f2
      have M2 := hg2.k
      have A21 := hg2.target
      have A22 := hg2.xs
      have A23 := hg2.ys
      have ts : zI g2 (m + 21) s = iI (tg s) := by rw [f2.1.2.2.2.2.2.1 (m + 21) (by omega), f1.1.2.2.2.2.2.1 (m + 21) (by show ¬ (tcS m (m + 21) ∨ _); unfold tcS; omega)]; exact tgs.2
      have K2 := fun l9 l10 => K2 g2 l9 l10 f2 e2 ty2
      have lpv : ∀ (j v : Nat), j + v = 61 → smN (cvT X Y s) v ≤ 4096 * v → PW (D + 2) 243 93 [some (.ref m), some (.int (iI x)), some (.int (iI n)), some (.int (iI low)), some (.int (iI high)), some (.int (iI y)), some (.int (iI s)), some (.int (iI ((tg s : Int) - (smN (cvT X Y s) v : Int)))), some (.int (iI v)), l9, l10] [] g2 R := by
        intro j
        induction j with
        | zero =>
          intro v hv hb
          have e : v = 61 := by omega
          subst e
          refine vs_ok 3 ?_
          rw [show ((gRes 243).drop 93).take 3 = [.iload 8, .iconst 61, .if_icmp .ge 119] from rfl]
          simp (disch := omega) only [vs_iconst, vs_if_icmp, vs_iload8, vs_nil, gv_0, gv_1, gv_2, gv_3, pv_0, pv_1, va_rf_s, Nat.reduceDiv, Nat.reduceMod, Nat.reduceAdd, Nat.reduceMul, Int.reduceToNat, true_and, and_true, and_self, cP_eq, cP_ne, cP_lt, cP_ge, cP_gt, cP_le, eL_i, eL_l, eL_r, eL_n, Option.toList_none, Option.toList_some, List.nil_append, List.cons_append, kkI, llI, nnI, rrI, jjI, kkJ, llJ, nnJ, rrJ, iiJ, zIIs, zJJs, nEF, nET, and_false, false_and, jmin, jmax, catS_n, catS_i, catS_r, catS_l, Nat.reduceLeDiff, j1eq1, n21, jt0, jt1, Bool.false_eq_true, Classical.not_not, true_or, or_true, false_or, or_false, true_imp_iff, false_imp_iff, not_true_eq_false, not_false_eq_true, jif0, jif1, jifb, ltT, ltF, leT, leF, eqT, eqF, jlt, jle, jeq, jlt0, jle0, jeq0, jge0, jgt0, jinB, jnat, clt, cle, ceq, cgt, cge, lI_add, lI_sub, lI_mul, jadd, jsub, jmul, jneg, jtol, b010, b011, pv_2t, Int.toNat_natCast, Option.some.injEq, exists_eq_left', if_true, if_false]
          refine vs_ok 2 ?_
          rw [show ((gRes 243).drop 119).take 2 = [.iconst 0, .istore 8] from rfl]
          simp (disch := omega) only [vs_iconst, vs_istore8n, vs_istore8i, vs_istore8r, vs_istore8l, vs_nil, gv_0, gv_1, gv_2, gv_3, pv_0, pv_1, va_rf_s, Nat.reduceDiv, Nat.reduceMod, Nat.reduceAdd, Nat.reduceMul, Int.reduceToNat, true_and, and_true, and_self, cP_eq, cP_ne, cP_lt, cP_ge, cP_gt, cP_le, eL_i, eL_l, eL_r, eL_n, Option.toList_none, Option.toList_some, List.nil_append, List.cons_append, kkI, llI, nnI, rrI, jjI, kkJ, llJ, nnJ, rrJ, iiJ, zIIs, zJJs, nEF, nET, and_false, false_and, jmin, jmax, catS_n, catS_i, catS_r, catS_l, Nat.reduceLeDiff, j1eq1, n21, jt0, jt1, Bool.false_eq_true, Classical.not_not, true_or, or_true, false_or, or_false, true_imp_iff, false_imp_iff, not_true_eq_false, not_false_eq_true, jif0, jif1, jifb, ltT, ltF, leT, leF, eqT, eqF, jlt, jle, jeq, jlt0, jle0, jeq0, jge0, jgt0, jinB, jnat, clt, cle, ceq, cgt, cge, lI_add, lI_sub, lI_mul, jadd, jsub, jmul, jneg, jtol, b010, b011, pv_2t, Int.toNat_natCast, Option.some.injEq, exists_eq_left', if_true, if_false]
          exact K2 _ _
        | succ j ihv =>
          intro v hv hb
          have ec : smN (cvT X Y s) (v + 1) = smN (cvT X Y s) v + cvT X Y s v := rfl
          have nx : PW (D + 2) 243 117 [some (.ref m), some (.int (iI x)), some (.int (iI n)), some (.int (iI low)), some (.int (iI high)), some (.int (iI y)), some (.int (iI s)), some (.int (iI ((tg s : Int) - (smN (cvT X Y s) (v + 1) : Int)))), some (.int (iI v)), l9, l10] [] g2 R := by
            have cb : cvT X Y s v ≤ 4096 := by
              unfold cvT
              split
              · exact Nat.mul_le_mul (xb v (by omega)) (yb (s - v) (by omega))
              · omega
            refine vs_ok 2 ?_
            rw [show ((gRes 243).drop 117).take 2 = [.iinc 8 1, .goto 93] from rfl]
            simp (disch := omega) only [vs_goto, vs_iinc8n, vs_iinc8i, vs_iinc8r, vs_iinc8l, vs_nil, gv_0, gv_1, gv_2, gv_3, pv_0, pv_1, va_rf_s, Nat.reduceDiv, Nat.reduceMod, Nat.reduceAdd, Nat.reduceMul, Int.reduceToNat, true_and, and_true, and_self, cP_eq, cP_ne, cP_lt, cP_ge, cP_gt, cP_le, eL_i, eL_l, eL_r, eL_n, Option.toList_none, Option.toList_some, List.nil_append, List.cons_append, kkI, llI, nnI, rrI, jjI, kkJ, llJ, nnJ, rrJ, iiJ, zIIs, zJJs, nEF, nET, and_false, false_and, jmin, jmax, catS_n, catS_i, catS_r, catS_l, Nat.reduceLeDiff, j1eq1, n21, jt0, jt1, Bool.false_eq_true, Classical.not_not, true_or, or_true, false_or, or_false, true_imp_iff, false_imp_iff, not_true_eq_false, not_false_eq_true, jif0, jif1, jifb, ltT, ltF, leT, leF, eqT, eqF, jlt, jle, jeq, jlt0, jle0, jeq0, jge0, jgt0, jinB, jnat, clt, cle, ceq, cgt, cge, lI_add, lI_sub, lI_mul, jadd, jsub, jmul, jneg, jtol, b010, b011, pv_2t, Int.toNat_natCast, Option.some.injEq, exists_eq_left', if_true, if_false]
            exact ihv (v + 1) (by omega) (by rw [ec]; omega)
          refine vs_ok 3 ?_
          rw [show ((gRes 243).drop 93).take 3 = [.iload 8, .iconst 61, .if_icmp .ge 119] from rfl]
          simp (disch := omega) only [vs_iconst, vs_if_icmp, vs_iload8, vs_nil, gv_0, gv_1, gv_2, gv_3, pv_0, pv_1, va_rf_s, Nat.reduceDiv, Nat.reduceMod, Nat.reduceAdd, Nat.reduceMul, Int.reduceToNat, true_and, and_true, and_self, cP_eq, cP_ne, cP_lt, cP_ge, cP_gt, cP_le, eL_i, eL_l, eL_r, eL_n, Option.toList_none, Option.toList_some, List.nil_append, List.cons_append, kkI, llI, nnI, rrI, jjI, kkJ, llJ, nnJ, rrJ, iiJ, zIIs, zJJs, nEF, nET, and_false, false_and, jmin, jmax, catS_n, catS_i, catS_r, catS_l, Nat.reduceLeDiff, j1eq1, n21, jt0, jt1, Bool.false_eq_true, Classical.not_not, true_or, or_true, false_or, or_false, true_imp_iff, false_imp_iff, not_true_eq_false, not_false_eq_true, jif0, jif1, jifb, ltT, ltF, leT, leF, eqT, eqF, jlt, jle, jeq, jlt0, jle0, jeq0, jge0, jgt0, jinB, jnat, clt, cle, ceq, cgt, cge, lI_add, lI_sub, lI_mul, jadd, jsub, jmul, jneg, jtol, b010, b011, pv_2t, Int.toNat_natCast, Option.some.injEq, exists_eq_left', if_true, if_false]
          refine vs_ok 5 ?_
          rw [show ((gRes 243).drop 96).take 5 = [.iload 6, .iload 8, .isub, .iconst 0, .iconst 60] from rfl]
          simp (disch := omega) only [vs_isub, vs_iconst, vs_iload6, vs_iload8, vs_nil, gv_0, gv_1, gv_2, gv_3, pv_0, pv_1, va_rf_s, Nat.reduceDiv, Nat.reduceMod, Nat.reduceAdd, Nat.reduceMul, Int.reduceToNat, true_and, and_true, and_self, cP_eq, cP_ne, cP_lt, cP_ge, cP_gt, cP_le, eL_i, eL_l, eL_r, eL_n, Option.toList_none, Option.toList_some, List.nil_append, List.cons_append, kkI, llI, nnI, rrI, jjI, kkJ, llJ, nnJ, rrJ, iiJ, zIIs, zJJs, nEF, nET, and_false, false_and, jmin, jmax, catS_n, catS_i, catS_r, catS_l, Nat.reduceLeDiff, j1eq1, n21, jt0, jt1, Bool.false_eq_true, Classical.not_not, true_or, or_true, false_or, or_false, true_imp_iff, false_imp_iff, not_true_eq_false, not_false_eq_true, jif0, jif1, jifb, ltT, ltF, leT, leF, eqT, eqF, jlt, jle, jeq, jlt0, jle0, jeq0, jge0, jgt0, jinB, jnat, clt, cle, ceq, cgt, cge, lI_add, lI_sub, lI_mul, jadd, jsub, jmul, jneg, jtol, b010, b011, pv_2t, Int.toNat_natCast, Option.some.injEq, exists_eq_left', if_true, if_false]
          refine PW.ss (r := []) rfl (le_b rfl) rfl rfl (le_b rfl) (le_b rfl) ?_
          refine t_M_isIn (by constructor <;> omega) (by constructor <;> omega) (by constructor <;> omega) ⟨rfl, ⟨rfl, rfl⟩, ?_⟩
          by_cases c : v ≤ s ∧ s - v ≤ 60
          · have esv : (s : Int) - (v : Int) = ((s - v : Nat) : Int) := by omega
            have xv := ty2.2.2.1 v (by omega)
            have yv := ty2.2.2.2 (s - v) c.2
            have pv : cvT X Y s v = X v * Y (s - v) := if_pos c
            have pe : ((X v : Nat) : Int) * ((Y (s - v) : Nat) : Int) = ((X v * Y (s - v) : Nat) : Int) := (Int.natCast_mul _ _).symm
            have fe : (tg s : Int) - (smN (cvT X Y s) v : Int) - ((X v * Y (s - v) : Nat) : Int) = (tg s : Int) - (smN (cvT X Y s) (v + 1) : Int) := by rw [ec, pv]; omega
            rw [if_pos (show (0 : Int) ≤ (s : Int) - (v : Int) ∧ (s : Int) - (v : Int) ≤ 60 by omega)]
            change zI g2 (m + 22) v = iI ((X v : Nat) : Int) at xv
            change zI g2 (m + 23) (s - v) = iI ((Y (s - v) : Nat) : Int) at yv
            refine vs_ok 1 ?_
            rw [show ((gRes 243).drop 102).take 1 = [.ifCond .eq 117] from rfl]
            simp (disch := omega) only [vs_ifCond, vs_nil, gv_0, gv_1, gv_2, gv_3, pv_0, pv_1, va_rf_s, Nat.reduceDiv, Nat.reduceMod, Nat.reduceAdd, Nat.reduceMul, Int.reduceToNat, true_and, and_true, and_self, cP_eq, cP_ne, cP_lt, cP_ge, cP_gt, cP_le, eL_i, eL_l, eL_r, eL_n, Option.toList_none, Option.toList_some, List.nil_append, List.cons_append, kkI, llI, nnI, rrI, jjI, kkJ, llJ, nnJ, rrJ, iiJ, zIIs, zJJs, nEF, nET, and_false, false_and, jmin, jmax, catS_n, catS_i, catS_r, catS_l, Nat.reduceLeDiff, j1eq1, n21, jt0, jt1, Bool.false_eq_true, Classical.not_not, true_or, or_true, false_or, or_false, true_imp_iff, false_imp_iff, not_true_eq_false, not_false_eq_true, jif0, jif1, jifb, ltT, ltF, leT, leF, eqT, eqF, jlt, jle, jeq, jlt0, jle0, jeq0, jge0, jgt0, jinB, jnat, clt, cle, ceq, cgt, cge, lI_add, lI_sub, lI_mul, jadd, jsub, jmul, jneg, jtol, b010, b011, pv_2t, Int.toNat_natCast, Option.some.injEq, exists_eq_left', if_true, if_false]
            refine vs_ok 14 ?_
            rw [show ((gRes 243).drop 103).take 14 = [.iload 7, .aload 0, .getfield 12342, .iload 8, .iaload, .aload 0, .getfield 12352, .iload 6, .iload 8, .isub, .iaload, .imul, .isub, .istore 7] from rfl]
            simp (disch := omega) only [vs_isub, vs_imul, vs_getfield, vs_iaload, vs_aload0, vs_iload6, vs_iload7, vs_istore7n, vs_istore7i, vs_istore7r, vs_istore7l, vs_iload8, vs_nil, gv_0, gv_1, gv_2, gv_3, pv_0, pv_1, va_rf_s, Nat.reduceDiv, Nat.reduceMod, Nat.reduceAdd, Nat.reduceMul, Int.reduceToNat, true_and, and_true, and_self, cP_eq, cP_ne, cP_lt, cP_ge, cP_gt, cP_le, eL_i, eL_l, eL_r, eL_n, Option.toList_none, Option.toList_some, List.nil_append, List.cons_append, kkI, llI, nnI, rrI, jjI, kkJ, llJ, nnJ, rrJ, iiJ, zIIs, zJJs, nEF, nET, and_false, false_and, jmin, jmax, catS_n, catS_i, catS_r, catS_l, Nat.reduceLeDiff, j1eq1, n21, jt0, jt1, Bool.false_eq_true, Classical.not_not, true_or, or_true, false_or, or_false, true_imp_iff, false_imp_iff, not_true_eq_false, not_false_eq_true, jif0, jif1, jifb, ltT, ltF, leT, leF, eqT, eqF, jlt, jle, jeq, jlt0, jle0, jeq0, jge0, jgt0, jinB, jnat, clt, cle, ceq, cgt, cge, lI_add, lI_sub, lI_mul, jadd, jsub, jmul, jneg, jtol, b010, b011, pv_2t, Int.toNat_natCast, Option.some.injEq, exists_eq_left', if_true, if_false, M2, A22, A23, esv, xv, yv, pe, fe]
            exact nx
          · have pv : cvT X Y s v = 0 := if_neg c
            rw [if_neg (show ¬ ((0 : Int) ≤ (s : Int) - (v : Int) ∧ (s : Int) - (v : Int) ≤ 60) by omega)]
            rw [ec, pv, Nat.add_zero] at nx
            refine vs_ok 1 ?_
            rw [show ((gRes 243).drop 102).take 1 = [.ifCond .eq 117] from rfl]
            simp (disch := omega) only [vs_ifCond, vs_nil, gv_0, gv_1, gv_2, gv_3, pv_0, pv_1, va_rf_s, Nat.reduceDiv, Nat.reduceMod, Nat.reduceAdd, Nat.reduceMul, Int.reduceToNat, true_and, and_true, and_self, cP_eq, cP_ne, cP_lt, cP_ge, cP_gt, cP_le, eL_i, eL_l, eL_r, eL_n, Option.toList_none, Option.toList_some, List.nil_append, List.cons_append, kkI, llI, nnI, rrI, jjI, kkJ, llJ, nnJ, rrJ, iiJ, zIIs, zJJs, nEF, nET, and_false, false_and, jmin, jmax, catS_n, catS_i, catS_r, catS_l, Nat.reduceLeDiff, j1eq1, n21, jt0, jt1, Bool.false_eq_true, Classical.not_not, true_or, or_true, false_or, or_false, true_imp_iff, false_imp_iff, not_true_eq_false, not_false_eq_true, jif0, jif1, jifb, ltT, ltF, leT, leF, eqT, eqF, jlt, jle, jeq, jlt0, jle0, jeq0, jge0, jgt0, jinB, jnat, clt, cle, ceq, cgt, cge, lI_add, lI_sub, lI_mul, jadd, jsub, jmul, jneg, jtol, b010, b011, pv_2t, Int.toNat_natCast, Option.some.injEq, exists_eq_left', if_true, if_false]
            exact nx
      refine vs_ok 7 ?_
      rw [show ((gRes 243).drop 86).take 7 = [.aload 0, .getfield 12332, .iload 6, .iaload, .istore 7, .iconst 0, .istore 8] from rfl]
      simp (disch := omega) only [vs_iconst, vs_getfield, vs_iaload, vs_aload0, vs_iload6, vs_istore7n, vs_istore7i, vs_istore7r, vs_istore7l, vs_istore8n, vs_istore8i, vs_istore8r, vs_istore8l, vs_nil, gv_0, gv_1, gv_2, gv_3, pv_0, pv_1, va_rf_s, Nat.reduceDiv, Nat.reduceMod, Nat.reduceAdd, Nat.reduceMul, Int.reduceToNat, true_and, and_true, and_self, cP_eq, cP_ne, cP_lt, cP_ge, cP_gt, cP_le, eL_i, eL_l, eL_r, eL_n, Option.toList_none, Option.toList_some, List.nil_append, List.cons_append, kkI, llI, nnI, rrI, jjI, kkJ, llJ, nnJ, rrJ, iiJ, zIIs, zJJs, nEF, nET, and_false, false_and, jmin, jmax, catS_n, catS_i, catS_r, catS_l, Nat.reduceLeDiff, j1eq1, n21, jt0, jt1, Bool.false_eq_true, Classical.not_not, true_or, or_true, false_or, or_false, true_imp_iff, false_imp_iff, not_true_eq_false, not_false_eq_true, jif0, jif1, jifb, ltT, ltF, leT, leF, eqT, eqF, jlt, jle, jeq, jlt0, jle0, jeq0, jge0, jgt0, jinB, jnat, clt, cle, ceq, cgt, cge, lI_add, lI_sub, lI_mul, jadd, jsub, jmul, jneg, jtol, b010, b011, pv_2t, Int.toNat_natCast, Option.some.injEq, exists_eq_left', if_true, if_false, M2, A21, ts]
      have q := lpv 61 0 (by omega) (Nat.zero_le _)
      rw [show (tg s : Int) - (smN (cvT X Y s) 0 : Int) = (tg s : Int) by show (tg s : Int) - ((0 : Nat) : Int) = _; omega] at q
      exact q
    have hsum := fun (t r : Nat) (h1 : 60 < s - y → t = 0) (h2 : 60 < s - x → r = 0) => And.intro (sm_upS (X := X) (i := s - y) (t := t) (fun _ => zX _ (Nat.le_refl _)) h1) (sm_upS (X := Y) (i := s - x) (t := r) (fun _ => zY _ (Nat.le_refl _)) h2)
    have upe : ∀ (X : Nat → Nat) (i t j : Nat), j ≤ 60 → upS X i t j = if j = i then t else X j := fun X i t j hj => by
      unfold upS
      by_cases c : i ≤ 60
      · rw [if_pos c]
      · rw [if_neg c, if_neg (by omega)]
    have upz : ∀ (X : Nat → Nat) (i t j : Nat), j ≠ i → upS X i t j = X j := fun X i t j hj => by
      unfold upS
      by_cases c : i ≤ 60
      · rw [if_pos c]
        exact if_neg hj
      · rw [if_neg c]
    have lo : ∀ (l : Nat), l ≤ 1000 → ∀ (j t : Nat), j + t = l + 1 → ∀ (L : List Pr2) (g' : Hp) (l9 l10 : Option Value), mO g' m → fi (fun z => tcS m z ∨ z = m + 25 ∨ z = m + 26) h g' → (∀ i, i ≠ 39 → i ≠ 40 → i ≠ 43 → i ≠ 44 → zI g' m i = zI h m i) → tyS g' m X Y → (∀ i, i < s → zI g' (m + 24) i = zI g (m + 24) i) → zI g' (m + 24) s = iI t → J L g' → (tg s : Int) - (cvN X Y s : Int) = (l : Int) →
        (∀ (g'' : Hp) (l7 l8 l9 l10 : Option Value), fi (fun z => tcS m z ∨ z = m + 25 ∨ z = m + 26) h g'' → (∀ i, i ≠ 39 → i ≠ 40 → i ≠ 43 → i ≠ 44 → zI g'' m i = zI h m i) → tyS g'' m X Y → (∀ i, i < s → zI g'' (m + 24) i = zI g (m + 24) i) → J (L ++ opL n P Q x y s (mdL tg n P Q x y high k) X Y l j t) g'' → PW (D + 2) 243 56 [some (.ref m), some (.int (iI x)), some (.int (iI n)), some (.int (iI low)), some (.int (iI high)), some (.int (iI y)), some (.int (iI ((s : Int) - 1))), l7, l8, l9, l10] [] g'' R) →
        PW (D + 2) 243 121 [some (.ref m), some (.int (iI x)), some (.int (iI n)), some (.int (iI low)), some (.int (iI high)), some (.int (iI y)), some (.int (iI s)), some (.int (iI l)), some (.int (iI 0)), l9, l10] [] g' R := by
      intro l hl j
      induction j with
      | zero =>
        intro t ht L g' l9 l10 hg' f e ty tr ts j el K
        have M := hg'.k
        have A23 := hg'.ys
        have A24 := hg'.tried
        have yy := ty.2.2.2 y hy
        change zI g' (m + 23) y = iI ((Y y : Nat) : Int) at yy
        have pe : ((t : Nat) : Int) * ((Y y : Nat) : Int) = ((t * Y y : Nat) : Int) := (Int.natCast_mul _ _).symm
        have big : l < t * Y y := by
          have : t * 1 ≤ t * Y y := Nat.mul_le_mul_left t (by omega)
          omega
        have sml : t * Y y ≤ 1001 * 64 := Nat.mul_le_mul (by omega) Yb
        refine vs_ok 2 ?_
        rw [show ((gRes 243).drop 121).take 2 = [.iload 8, .ifCond .ne 208] from rfl]
        simp (disch := omega) only [vs_ifCond, vs_iload8, vs_nil, gv_0, gv_1, gv_2, gv_3, pv_0, pv_1, va_rf_s, Nat.reduceDiv, Nat.reduceMod, Nat.reduceAdd, Nat.reduceMul, Int.reduceToNat, true_and, and_true, and_self, cP_eq, cP_ne, cP_lt, cP_ge, cP_gt, cP_le, eL_i, eL_l, eL_r, eL_n, Option.toList_none, Option.toList_some, List.nil_append, List.cons_append, kkI, llI, nnI, rrI, jjI, kkJ, llJ, nnJ, rrJ, iiJ, zIIs, zJJs, nEF, nET, and_false, false_and, jmin, jmax, catS_n, catS_i, catS_r, catS_l, Nat.reduceLeDiff, j1eq1, n21, jt0, jt1, Bool.false_eq_true, Classical.not_not, true_or, or_true, false_or, or_false, true_imp_iff, false_imp_iff, not_true_eq_false, not_false_eq_true, jif0, jif1, jifb, ltT, ltF, leT, leF, eqT, eqF, jlt, jle, jeq, jlt0, jle0, jeq0, jge0, jgt0, jinB, jnat, clt, cle, ceq, cgt, cge, lI_add, lI_sub, lI_mul, jadd, jsub, jmul, jneg, jtol, b010, b011, pv_2t, Int.toNat_natCast, Option.some.injEq, exists_eq_left', if_true, if_false]
        refine vs_ok 2 ?_
        rw [show ((gRes 243).drop 123).take 2 = [.iload 7, .ifCond .lt 208] from rfl]
        simp (disch := omega) only [vs_ifCond, vs_iload7, vs_nil, gv_0, gv_1, gv_2, gv_3, pv_0, pv_1, va_rf_s, Nat.reduceDiv, Nat.reduceMod, Nat.reduceAdd, Nat.reduceMul, Int.reduceToNat, true_and, and_true, and_self, cP_eq, cP_ne, cP_lt, cP_ge, cP_gt, cP_le, eL_i, eL_l, eL_r, eL_n, Option.toList_none, Option.toList_some, List.nil_append, List.cons_append, kkI, llI, nnI, rrI, jjI, kkJ, llJ, nnJ, rrJ, iiJ, zIIs, zJJs, nEF, nET, and_false, false_and, jmin, jmax, catS_n, catS_i, catS_r, catS_l, Nat.reduceLeDiff, j1eq1, n21, jt0, jt1, Bool.false_eq_true, Classical.not_not, true_or, or_true, false_or, or_false, true_imp_iff, false_imp_iff, not_true_eq_false, not_false_eq_true, jif0, jif1, jifb, ltT, ltF, leT, leF, eqT, eqF, jlt, jle, jeq, jlt0, jle0, jeq0, jge0, jgt0, jinB, jnat, clt, cle, ceq, cgt, cge, lI_add, lI_sub, lI_mul, jadd, jsub, jmul, jneg, jtol, b010, b011, pv_2t, Int.toNat_natCast, Option.some.injEq, exists_eq_left', if_true, if_false]
        refine vs_ok 11 ?_
        rw [show ((gRes 243).drop 125).take 11 = [.aload 0, .getfield 12362, .iload 6, .iaload, .aload 0, .getfield 12352, .iload 5, .iaload, .imul, .iload 7, .if_icmp .gt 208] from rfl]
        simp (disch := omega) only [vs_imul, vs_if_icmp, vs_getfield, vs_iaload, vs_aload0, vs_iload5, vs_iload6, vs_iload7, vs_nil, gv_0, gv_1, gv_2, gv_3, pv_0, pv_1, va_rf_s, Nat.reduceDiv, Nat.reduceMod, Nat.reduceAdd, Nat.reduceMul, Int.reduceToNat, true_and, and_true, and_self, cP_eq, cP_ne, cP_lt, cP_ge, cP_gt, cP_le, eL_i, eL_l, eL_r, eL_n, Option.toList_none, Option.toList_some, List.nil_append, List.cons_append, kkI, llI, nnI, rrI, jjI, kkJ, llJ, nnJ, rrJ, iiJ, zIIs, zJJs, nEF, nET, and_false, false_and, jmin, jmax, catS_n, catS_i, catS_r, catS_l, Nat.reduceLeDiff, j1eq1, n21, jt0, jt1, Bool.false_eq_true, Classical.not_not, true_or, or_true, false_or, or_false, true_imp_iff, false_imp_iff, not_true_eq_false, not_false_eq_true, jif0, jif1, jifb, ltT, ltF, leT, leF, eqT, eqF, jlt, jle, jeq, jlt0, jle0, jeq0, jge0, jgt0, jinB, jnat, clt, cle, ceq, cgt, cge, lI_add, lI_sub, lI_mul, jadd, jsub, jmul, jneg, jtol, b010, b011, pv_2t, Int.toNat_natCast, Option.some.injEq, exists_eq_left', if_true, if_false, M, A23, A24, ts, yy, pe]
        refine p208 L g' none l9 l10 _ f e ty tr j fun l7 l8 l9 l10 => K g' l7 l8 l9 l10 f e ty tr ?_
        show J (L ++ []) g'
        rw [List.append_nil]
        exact j
      | succ j ihl =>
        intro t ht L g' l9 l10 hg' f e ty tr ts j0 el K
        have M := hg'.k
        have A23 := hg'.ys
        have A24 := hg'.tried
        have yy := ty.2.2.2 y hy
        change zI g' (m + 23) y = iI ((Y y : Nat) : Int) at yy
        have pe : ((t : Nat) : Int) * ((Y y : Nat) : Int) = ((t * Y y : Nat) : Int) := (Int.natCast_mul _ _).symm
        have sml : t * Y y ≤ 1001 * 64 := Nat.mul_le_mul (by omega) Yb
        by_cases c : t * Y y ≤ l
        · have Re : (l : Int) - ((t * Y y : Nat) : Int) = ((l - t * Y y : Nat) : Int) := by omega
          generalize hR : l - t * Y y = r at Re
          have rl : r ≤ 1000 := by omega
          have mn := jmN r n (by omega) (by omega) (by omega)
          have dn := jdN r n (by omega) (by omega) (by omega)
          have rn : r / n ≤ r := Nat.div_le_self r n
          have P41 : zI g' m 41 = iI P := by rw [e 41 (by omega) (by omega) (by omega) (by omega)]; exact h41
          have P42 : zI g' m 42 = iI Q := by rw [e 42 (by omega) (by omega) (by omega) (by omega)]; exact h42
          have et : (t : Int) + 1 = ((t + 1 : Nat) : Int) := rfl
          have eo : opL n P Q x y s (mdL tg n P Q x y high k) X Y l (j + 1) t = (if okT n P Q x y s X Y l t then mdL tg n P Q x y high k (upS X (s - y) t) (upS Y (s - x) (r / n)) else []) ++ opL n P Q x y s (mdL tg n P Q x y high k) X Y l j (t + 1) := by
            rw [← hR]
            rfl
          rw [eo] at K
          -- the place is spent
          have hg1 : mO (zsI g' (m + 24) s (iI ((t : Int) + 1))) m := hg'.fi (fi_I (S := fun z => z = m + 24) rfl)
          generalize hG : zsI g' (m + 24) s (iI ((t : Int) + 1)) = g1 at hg1
          have f01 : fi (fun z => z = m + 24) g' g1 := by rw [← hG]; exact fi_I rfl
          have r1 := f01.1.2.2.2.2.2.1
          have M1 := hg1.k
          have B41 : zI g1 m 41 = iI P := by rw [r1 m (by omega)]; exact P41
          have B42 : zI g1 m 42 = iI Q := by rw [r1 m (by omega)]; exact P42
          have ty1 : tyS g1 m X Y := ⟨by rw [r1 m (by omega)]; exact ty.1, by rw [r1 m (by omega)]; exact ty.2.1, fun i hi => by rw [r1 (m + 22) (by omega)]; exact ty.2.2.1 i hi, fun i hi => by rw [r1 (m + 23) (by omega)]; exact ty.2.2.2 i hi⟩
          have f1 : fi (fun z => tcS m z ∨ z = m + 25 ∨ z = m + 26) h g1 := f.tr (f01.wk fun z h => by unfold tcS; omega)
          have e1' : ∀ i, i ≠ 39 → i ≠ 40 → i ≠ 43 → i ≠ 44 → zI g1 m i = zI h m i := fun i h1 h2 h3 h4 => by rw [r1 m (by omega)]; exact e i h1 h2 h3 h4
          have tr1 : ∀ i, i < s → zI g1 (m + 24) i = zI g (m + 24) i := fun i hi => by rw [← hG, zI_s, if_neg (by omega)]; exact tr i hi
          have ts1 : zI g1 (m + 24) s = iI ((t + 1 : Nat) : Int) := by rw [← hG, zI_s, if_pos ⟨rfl, rfl⟩]; rfl
          have c01 : tcC g' g1 m := ⟨f01.wk fun z h => by unfold tcS; omega, fun i _ _ => by rw [r1 m (by omega)]⟩
          have j1 := hJ L g' g1 j0 hg' c01
          have p121 : ∀ (l9 l10 : Option Value), ¬ okT n P Q x y s X Y l t → PW (D + 2) 243 121 [some (.ref m), some (.int (iI x)), some (.int (iI n)), some (.int (iI low)), some (.int (iI high)), some (.int (iI y)), some (.int (iI s)), some (.int (iI l)), some (.int (iI 0)), l9, l10] [] g1 R := fun l9 l10 no => by
            rw [if_neg no, List.nil_append] at K
            exact ihl (t + 1) (by omega) L g1 l9 l10 hg1 f1 e1' ty1 tr1 ts1 j1 el K
          have p193 : okT n P Q x y s X Y l t → PW (D + 2) 243 193 [some (.ref m), some (.int (iI x)), some (.int (iI n)), some (.int (iI low)), some (.int (iI high)), some (.int (iI y)), some (.int (iI s)), some (.int (iI l)), some (.int (iI 0)), some (.int (iI t)), some (.int (iI r))] [] g1 R := fun ok => by
            rw [if_pos ok] at K
            have ok2 : (60 < s - y → t = 0) ∧ (60 < s - x → r = 0) ∧ smN X 61 + t ≤ P ∧ smN Y 61 + r / n ≤ Q := by
              have o := ok
              unfold okT at o
              rw [hR] at o
              exact ⟨fun _ => by omega, fun _ => by omega, o.2.2.2.2.1, o.2.2.2.2.2⟩
            obtain ⟨o1, o2, o3, o4⟩ := ok2
            have o2' : 60 < s - x → r / n = 0 := fun z => by rw [o2 z]; exact Nat.zero_div n
            have ss := hsum t (r / n) o1 o2'
            refine vs_ok 11 ?_
            rw [show ((gRes 243).drop 193).take 11 = [.aload 0, .iload 6, .iload 5, .isub, .iload 6, .iload 1, .isub, .iload 9, .iload 10, .iload 2, .idiv] from rfl]
            simp (disch := omega) only [vs_isub, vs_idiv, vs_aload0, vs_iload1, vs_iload2, vs_iload5, vs_iload6, vs_iload9, vs_iload10, vs_nil, gv_0, gv_1, gv_2, gv_3, pv_0, pv_1, va_rf_s, Nat.reduceDiv, Nat.reduceMod, Nat.reduceAdd, Nat.reduceMul, Int.reduceToNat, true_and, and_true, and_self, cP_eq, cP_ne, cP_lt, cP_ge, cP_gt, cP_le, eL_i, eL_l, eL_r, eL_n, Option.toList_none, Option.toList_some, List.nil_append, List.cons_append, kkI, llI, nnI, rrI, jjI, kkJ, llJ, nnJ, rrJ, iiJ, zIIs, zJJs, nEF, nET, and_false, false_and, jmin, jmax, catS_n, catS_i, catS_r, catS_l, Nat.reduceLeDiff, j1eq1, n21, jt0, jt1, Bool.false_eq_true, Classical.not_not, true_or, or_true, false_or, or_false, true_imp_iff, false_imp_iff, not_true_eq_false, not_false_eq_true, jif0, jif1, jifb, ltT, ltF, leT, leF, eqT, eqF, jlt, jle, jeq, jlt0, jle0, jeq0, jge0, jgt0, jinB, jnat, clt, cle, ceq, cgt, cge, lI_add, lI_sub, lI_mul, jadd, jsub, jmul, jneg, jtol, b010, b011, pv_2t, Int.toNat_natCast, Option.some.injEq, exists_eq_left', if_true, if_false, esy, esx, dn]
            refine PW.iv rfl rfl rfl M1.1 M1.2 (le_b rfl) (le_b rfl) ?_
            refine t_M_laid2 (i := s - y) (k := s - x) (u := t) (v := r / n) (X' := upS X (s - y) t) (Y' := upS Y (s - x) (r / n)) hg1 (by omega) (by omega) ty1 (fun i hi => upe X (s - y) t i hi) (fun i hi => upe Y (s - x) (r / n) i hi) fun g2 f2 e2 ty2 => ⟨rfl, ⟨f2.1.2.2.1, rfl⟩, ?_⟩
            have hg2 := hg1.fi f2
            have M2 := hg2.k
            have A24' := hg2.tried
            have r2 := f2.1.2.2.2.2.2.1
            have es : (s : Int) + 1 = ((s + 1 : Nat) : Int) := rfl
            refine vs_ok 3 ?_
            rw [show ((gRes 243).drop 205).take 3 = [.iconst 1, .istore 8, .goto 121] from rfl]
            simp (disch := omega) only [vs_iconst, vs_goto, vs_istore8n, vs_istore8i, vs_istore8r, vs_istore8l, vs_nil, gv_0, gv_1, gv_2, gv_3, pv_0, pv_1, va_rf_s, Nat.reduceDiv, Nat.reduceMod, Nat.reduceAdd, Nat.reduceMul, Int.reduceToNat, true_and, and_true, and_self, cP_eq, cP_ne, cP_lt, cP_ge, cP_gt, cP_le, eL_i, eL_l, eL_r, eL_n, Option.toList_none, Option.toList_some, List.nil_append, List.cons_append, kkI, llI, nnI, rrI, jjI, kkJ, llJ, nnJ, rrJ, iiJ, zIIs, zJJs, nEF, nET, and_false, false_and, jmin, jmax, catS_n, catS_i, catS_r, catS_l, Nat.reduceLeDiff, j1eq1, n21, jt0, jt1, Bool.false_eq_true, Classical.not_not, true_or, or_true, false_or, or_false, true_imp_iff, false_imp_iff, not_true_eq_false, not_false_eq_true, jif0, jif1, jifb, ltT, ltF, leT, leF, eqT, eqF, jlt, jle, jeq, jlt0, jle0, jeq0, jge0, jgt0, jinB, jnat, clt, cle, ceq, cgt, cge, lI_add, lI_sub, lI_mul, jadd, jsub, jmul, jneg, jtol, b010, b011, pv_2t, Int.toNat_natCast, Option.some.injEq, exists_eq_left', if_true, if_false]
            refine vs_ok 2 ?_
            rw [show ((gRes 243).drop 121).take 2 = [.iload 8, .ifCond .ne 208] from rfl]
            simp (disch := omega) only [vs_ifCond, vs_iload8, vs_nil, gv_0, gv_1, gv_2, gv_3, pv_0, pv_1, va_rf_s, Nat.reduceDiv, Nat.reduceMod, Nat.reduceAdd, Nat.reduceMul, Int.reduceToNat, true_and, and_true, and_self, cP_eq, cP_ne, cP_lt, cP_ge, cP_gt, cP_le, eL_i, eL_l, eL_r, eL_n, Option.toList_none, Option.toList_some, List.nil_append, List.cons_append, kkI, llI, nnI, rrI, jjI, kkJ, llJ, nnJ, rrJ, iiJ, zIIs, zJJs, nEF, nET, and_false, false_and, jmin, jmax, catS_n, catS_i, catS_r, catS_l, Nat.reduceLeDiff, j1eq1, n21, jt0, jt1, Bool.false_eq_true, Classical.not_not, true_or, or_true, false_or, or_false, true_imp_iff, false_imp_iff, not_true_eq_false, not_false_eq_true, jif0, jif1, jifb, ltT, ltF, leT, leF, eqT, eqF, jlt, jle, jeq, jlt0, jle0, jeq0, jge0, jgt0, jinB, jnat, clt, cle, ceq, cgt, cge, lI_add, lI_sub, lI_mul, jadd, jsub, jmul, jneg, jtol, b010, b011, pv_2t, Int.toNat_natCast, Option.some.injEq, exists_eq_left', if_true, if_false]
            refine vs_ok 3 ?_
            rw [show ((gRes 243).drop 208).take 3 = [.iload 6, .iload 8, .ifCond .eq 213] from rfl]
            simp (disch := omega) only [vs_ifCond, vs_iload6, vs_iload8, vs_nil, gv_0, gv_1, gv_2, gv_3, pv_0, pv_1, va_rf_s, Nat.reduceDiv, Nat.reduceMod, Nat.reduceAdd, Nat.reduceMul, Int.reduceToNat, true_and, and_true, and_self, cP_eq, cP_ne, cP_lt, cP_ge, cP_gt, cP_le, eL_i, eL_l, eL_r, eL_n, Option.toList_none, Option.toList_some, List.nil_append, List.cons_append, kkI, llI, nnI, rrI, jjI, kkJ, llJ, nnJ, rrJ, iiJ, zIIs, zJJs, nEF, nET, and_false, false_and, jmin, jmax, catS_n, catS_i, catS_r, catS_l, Nat.reduceLeDiff, j1eq1, n21, jt0, jt1, Bool.false_eq_true, Classical.not_not, true_or, or_true, false_or, or_false, true_imp_iff, false_imp_iff, not_true_eq_false, not_false_eq_true, jif0, jif1, jifb, ltT, ltF, leT, leF, eqT, eqF, jlt, jle, jeq, jlt0, jle0, jeq0, jge0, jgt0, jinB, jnat, clt, cle, ceq, cgt, cge, lI_add, lI_sub, lI_mul, jadd, jsub, jmul, jneg, jtol, b010, b011, pv_2t, Int.toNat_natCast, Option.some.injEq, exists_eq_left', if_true, if_false]
            refine vs_ok 2 ?_
            rw [show ((gRes 243).drop 211).take 2 = [.iconst 1, .goto 214] from rfl]
            simp (disch := omega) only [vs_iconst, vs_goto, vs_nil, gv_0, gv_1, gv_2, gv_3, pv_0, pv_1, va_rf_s, Nat.reduceDiv, Nat.reduceMod, Nat.reduceAdd, Nat.reduceMul, Int.reduceToNat, true_and, and_true, and_self, cP_eq, cP_ne, cP_lt, cP_ge, cP_gt, cP_le, eL_i, eL_l, eL_r, eL_n, Option.toList_none, Option.toList_some, List.nil_append, List.cons_append, kkI, llI, nnI, rrI, jjI, kkJ, llJ, nnJ, rrJ, iiJ, zIIs, zJJs, nEF, nET, and_false, false_and, jmin, jmax, catS_n, catS_i, catS_r, catS_l, Nat.reduceLeDiff, j1eq1, n21, jt0, jt1, Bool.false_eq_true, Classical.not_not, true_or, or_true, false_or, or_false, true_imp_iff, false_imp_iff, not_true_eq_false, not_false_eq_true, jif0, jif1, jifb, ltT, ltF, leT, leF, eqT, eqF, jlt, jle, jeq, jlt0, jle0, jeq0, jge0, jgt0, jinB, jnat, clt, cle, ceq, cgt, cge, lI_add, lI_sub, lI_mul, jadd, jsub, jmul, jneg, jtol, b010, b011, pv_2t, Int.toNat_natCast, Option.some.injEq, exists_eq_left', if_true, if_false]
            refine vs_ok 4 ?_
            rw [show ((gRes 243).drop 214).take 4 = [.iadd, .istore 6, .iload 8, .ifCond .eq 223] from rfl]
            simp (disch := omega) only [vs_iadd, vs_ifCond, vs_istore6n, vs_istore6i, vs_istore6r, vs_istore6l, vs_iload8, vs_nil, gv_0, gv_1, gv_2, gv_3, pv_0, pv_1, va_rf_s, Nat.reduceDiv, Nat.reduceMod, Nat.reduceAdd, Nat.reduceMul, Int.reduceToNat, true_and, and_true, and_self, cP_eq, cP_ne, cP_lt, cP_ge, cP_gt, cP_le, eL_i, eL_l, eL_r, eL_n, Option.toList_none, Option.toList_some, List.nil_append, List.cons_append, kkI, llI, nnI, rrI, jjI, kkJ, llJ, nnJ, rrJ, iiJ, zIIs, zJJs, nEF, nET, and_false, false_and, jmin, jmax, catS_n, catS_i, catS_r, catS_l, Nat.reduceLeDiff, j1eq1, n21, jt0, jt1, Bool.false_eq_true, Classical.not_not, true_or, or_true, false_or, or_false, true_imp_iff, false_imp_iff, not_true_eq_false, not_false_eq_true, jif0, jif1, jifb, ltT, ltF, leT, leF, eqT, eqF, jlt, jle, jeq, jlt0, jle0, jeq0, jge0, jgt0, jinB, jnat, clt, cle, ceq, cgt, cge, lI_add, lI_sub, lI_mul, jadd, jsub, jmul, jneg, jtol, b010, b011, pv_2t, Int.toNat_natCast, Option.some.injEq, exists_eq_left', if_true, if_false, es]
            refine vs_ok 6 ?_
            rw [show ((gRes 243).drop 218).take 6 = [.aload 0, .getfield 12362, .iload 6, .iconst 0, .iastore, .goto 56] from rfl]
            simp (disch := omega) only [vs_iconst, vs_goto, vs_getfield, vs_iastore, vs_aload0, vs_iload6, vs_nil, gv_0, gv_1, gv_2, gv_3, pv_0, pv_1, va_rf_s, Nat.reduceDiv, Nat.reduceMod, Nat.reduceAdd, Nat.reduceMul, Int.reduceToNat, true_and, and_true, and_self, cP_eq, cP_ne, cP_lt, cP_ge, cP_gt, cP_le, eL_i, eL_l, eL_r, eL_n, Option.toList_none, Option.toList_some, List.nil_append, List.cons_append, kkI, llI, nnI, rrI, jjI, kkJ, llJ, nnJ, rrJ, iiJ, zIIs, zJJs, nEF, nET, and_false, false_and, jmin, jmax, catS_n, catS_i, catS_r, catS_l, Nat.reduceLeDiff, j1eq1, n21, jt0, jt1, Bool.false_eq_true, Classical.not_not, true_or, or_true, false_or, or_false, true_imp_iff, false_imp_iff, not_true_eq_false, not_false_eq_true, jif0, jif1, jifb, ltT, ltF, leT, leF, eqT, eqF, jlt, jle, jeq, jlt0, jle0, jeq0, jge0, jgt0, jinB, jnat, clt, cle, ceq, cgt, cge, lI_add, lI_sub, lI_mul, jadd, jsub, jmul, jneg, jtol, b010, b011, pv_2t, Int.toNat_natCast, Option.some.injEq, exists_eq_left', if_true, if_false, M2, A24']
            have f3 : fi (fun z => z = m + 24) g2 (zsI g2 (m + 24) (s + 1) (iI 0)) := fi_I rfl
            generalize hG3 : zsI g2 (m + 24) (s + 1) (iI 0) = g3 at f3
            have r3 := f3.1.2.2.2.2.2.1
            have hg3 := hg2.fi f3
            have ty3 : tyS g3 m (upS X (s - y) t) (upS Y (s - x) (r / n)) := ⟨by rw [r3 m (by omega)]; exact ty2.1, by rw [r3 m (by omega)]; exact ty2.2.1, fun i hi => by rw [r3 (m + 22) (by omega)]; exact ty2.2.2.1 i hi, fun i hi => by rw [r3 (m + 23) (by omega)]; exact ty2.2.2.2 i hi⟩
            have f23 : fi (fun z => tcS m z) g1 g3 := (f2.wk fun z h => by unfold tcS; omega).tr (f3.wk fun z h => by unfold tcS; omega)
            have c13 : tcC g1 g3 m := ⟨f23, fun i h1 h2 => by rw [r3 m (by omega)]; exact e2 i h1 h2⟩
            have trd : ∀ i, i < s + 1 → zI g3 (m + 24) i = zI g1 (m + 24) i := fun i hi => by
              rw [← hG3, zI_s, if_neg (by omega), r2 (m + 24) (by omega)]
            refine ih (s + 1) (by omega) (by omega) (upS X (s - y) t) (upS Y (s - x) (r / n)) (by rw [ss.1]; exact o3) (by rw [ss.2]; exact o4) (by rw [upz Y _ _ y (by omega)]; exact hYy) (fun i hi => by rw [upz X _ _ i (by omega)]; exact zX i (by omega)) (fun i hi => by rw [upz Y _ _ i (by omega)]; exact zY i (by omega)) (by omega) L g3 _ _ _ _ hg3 (f1.tr (f23.wk fun z h => Or.inl h)) (fun i h1 h2 h3 h4 => by rw [c13.2 i h3 h4]; exact e1' i h1 h2 h3 h4) ty3 (by rw [← hG3, zI_s, if_pos ⟨rfl, rfl⟩]) (hJ L g1 g3 j1 hg1 c13) fun g4 l7 l8 l9 l10 f4 e4 ty4 tr4 j4 => ?_
            have hg4 : mO g4 m := hm.fi f4
            have es2 : ((s + 1 : Nat) : Int) - 1 = (s : Int) := by omega
            rw [es2]
            refine toLo _ _ g4 l7 l8 l9 l10 hg4 f4 ty4 (fun i _ hi => upz X _ _ i hi) (fun i _ hi => upz Y _ _ i hi) fun g5 l9 l10 f5 e5 ty5 => ?_
            have r5 := f5.1.2.2.2.2.2.1
            have hg5 := hg4.fi f5
            have f45 : tcC g4 g5 m := ⟨f5.wk fun z h => by unfold tcS; omega, e5⟩
            rw [el]
            refine ihl (t + 1) (by omega) _ g5 l9 l10 hg5 (f4.tr (f5.wk fun z h => by unfold tcS; omega)) (fun i h1 h2 h3 h4 => by rw [e5 i h3 h4]; exact e4 i h1 h2 h3 h4) ty5 (fun i hi => by rw [r5 (m + 24) (by omega), tr4 i (by omega), trd i (by omega)]; exact tr1 i hi) (by rw [r5 (m + 24) (by omega), tr4 s (by omega), trd s (by omega)]; exact ts1) (hJ _ g4 g5 j4 hg4 f45) el fun g6 l7 l8 l9 l10 f6 e6 ty6 tr6 j6 => K g6 l7 l8 l9 l10 f6 e6 ty6 tr6 ?_
            rw [← List.append_assoc]
            exact j6
          refine vs_ok 2 ?_
          rw [show ((gRes 243).drop 121).take 2 = [.iload 8, .ifCond .ne 208] from rfl]
          simp (disch := omega) only [vs_ifCond, vs_iload8, vs_nil, gv_0, gv_1, gv_2, gv_3, pv_0, pv_1, va_rf_s, Nat.reduceDiv, Nat.reduceMod, Nat.reduceAdd, Nat.reduceMul, Int.reduceToNat, true_and, and_true, and_self, cP_eq, cP_ne, cP_lt, cP_ge, cP_gt, cP_le, eL_i, eL_l, eL_r, eL_n, Option.toList_none, Option.toList_some, List.nil_append, List.cons_append, kkI, llI, nnI, rrI, jjI, kkJ, llJ, nnJ, rrJ, iiJ, zIIs, zJJs, nEF, nET, and_false, false_and, jmin, jmax, catS_n, catS_i, catS_r, catS_l, Nat.reduceLeDiff, j1eq1, n21, jt0, jt1, Bool.false_eq_true, Classical.not_not, true_or, or_true, false_or, or_false, true_imp_iff, false_imp_iff, not_true_eq_false, not_false_eq_true, jif0, jif1, jifb, ltT, ltF, leT, leF, eqT, eqF, jlt, jle, jeq, jlt0, jle0, jeq0, jge0, jgt0, jinB, jnat, clt, cle, ceq, cgt, cge, lI_add, lI_sub, lI_mul, jadd, jsub, jmul, jneg, jtol, b010, b011, pv_2t, Int.toNat_natCast, Option.some.injEq, exists_eq_left', if_true, if_false]
          refine vs_ok 2 ?_
          rw [show ((gRes 243).drop 123).take 2 = [.iload 7, .ifCond .lt 208] from rfl]
          simp (disch := omega) only [vs_ifCond, vs_iload7, vs_nil, gv_0, gv_1, gv_2, gv_3, pv_0, pv_1, va_rf_s, Nat.reduceDiv, Nat.reduceMod, Nat.reduceAdd, Nat.reduceMul, Int.reduceToNat, true_and, and_true, and_self, cP_eq, cP_ne, cP_lt, cP_ge, cP_gt, cP_le, eL_i, eL_l, eL_r, eL_n, Option.toList_none, Option.toList_some, List.nil_append, List.cons_append, kkI, llI, nnI, rrI, jjI, kkJ, llJ, nnJ, rrJ, iiJ, zIIs, zJJs, nEF, nET, and_false, false_and, jmin, jmax, catS_n, catS_i, catS_r, catS_l, Nat.reduceLeDiff, j1eq1, n21, jt0, jt1, Bool.false_eq_true, Classical.not_not, true_or, or_true, false_or, or_false, true_imp_iff, false_imp_iff, not_true_eq_false, not_false_eq_true, jif0, jif1, jifb, ltT, ltF, leT, leF, eqT, eqF, jlt, jle, jeq, jlt0, jle0, jeq0, jge0, jgt0, jinB, jnat, clt, cle, ceq, cgt, cge, lI_add, lI_sub, lI_mul, jadd, jsub, jmul, jneg, jtol, b010, b011, pv_2t, Int.toNat_natCast, Option.some.injEq, exists_eq_left', if_true, if_false]
          refine vs_ok 11 ?_
          rw [show ((gRes 243).drop 125).take 11 = [.aload 0, .getfield 12362, .iload 6, .iaload, .aload 0, .getfield 12352, .iload 5, .iaload, .imul, .iload 7, .if_icmp .gt 208] from rfl]
          simp (disch := omega) only [vs_imul, vs_if_icmp, vs_getfield, vs_iaload, vs_aload0, vs_iload5, vs_iload6, vs_iload7, vs_nil, gv_0, gv_1, gv_2, gv_3, pv_0, pv_1, va_rf_s, Nat.reduceDiv, Nat.reduceMod, Nat.reduceAdd, Nat.reduceMul, Int.reduceToNat, true_and, and_true, and_self, cP_eq, cP_ne, cP_lt, cP_ge, cP_gt, cP_le, eL_i, eL_l, eL_r, eL_n, Option.toList_none, Option.toList_some, List.nil_append, List.cons_append, kkI, llI, nnI, rrI, jjI, kkJ, llJ, nnJ, rrJ, iiJ, zIIs, zJJs, nEF, nET, and_false, false_and, jmin, jmax, catS_n, catS_i, catS_r, catS_l, Nat.reduceLeDiff, j1eq1, n21, jt0, jt1, Bool.false_eq_true, Classical.not_not, true_or, or_true, false_or, or_false, true_imp_iff, false_imp_iff, not_true_eq_false, not_false_eq_true, jif0, jif1, jifb, ltT, ltF, leT, leF, eqT, eqF, jlt, jle, jeq, jlt0, jle0, jeq0, jge0, jgt0, jinB, jnat, clt, cle, ceq, cgt, cge, lI_add, lI_sub, lI_mul, jadd, jsub, jmul, jneg, jtol, b010, b011, pv_2t, Int.toNat_natCast, Option.some.injEq, exists_eq_left', if_true, if_false, M, A23, A24, ts, yy, pe]
          refine vs_ok 22 ?_
          rw [show ((gRes 243).drop 136).take 22 = [.aload 0, .getfield 12362, .iload 6, .iaload, .istore 9, .iload 7, .iload 9, .aload 0, .getfield 12352, .iload 5, .iaload, .imul, .isub, .istore 10, .aload 0, .getfield 12362, .iload 6, .dup2, .iaload, .iconst 1, .iadd, .iastore] from rfl]
          simp (disch := omega) only [vs_iadd, vs_isub, vs_imul, vs_iconst, vs_getfield, vs_iaload, vs_iastore, vs_dup2, vs_aload0, vs_iload5, vs_iload6, vs_iload7, vs_iload9, vs_istore9n, vs_istore9i, vs_istore9r, vs_istore9l, vs_istore10n, vs_istore10i, vs_istore10r, vs_istore10l, vs_nil, gv_0, gv_1, gv_2, gv_3, pv_0, pv_1, va_rf_s, Nat.reduceDiv, Nat.reduceMod, Nat.reduceAdd, Nat.reduceMul, Int.reduceToNat, true_and, and_true, and_self, cP_eq, cP_ne, cP_lt, cP_ge, cP_gt, cP_le, eL_i, eL_l, eL_r, eL_n, Option.toList_none, Option.toList_some, List.nil_append, List.cons_append, kkI, llI, nnI, rrI, jjI, kkJ, llJ, nnJ, rrJ, iiJ, zIIs, zJJs, nEF, nET, and_false, false_and, jmin, jmax, catS_n, catS_i, catS_r, catS_l, Nat.reduceLeDiff, j1eq1, n21, jt0, jt1, Bool.false_eq_true, Classical.not_not, true_or, or_true, false_or, or_false, true_imp_iff, false_imp_iff, not_true_eq_false, not_false_eq_true, jif0, jif1, jifb, ltT, ltF, leT, leF, eqT, eqF, jlt, jle, jeq, jlt0, jle0, jeq0, jge0, jgt0, jinB, jnat, clt, cle, ceq, cgt, cge, lI_add, lI_sub, lI_mul, jadd, jsub, jmul, jneg, jtol, b010, b011, pv_2t, Int.toNat_natCast, Option.some.injEq, exists_eq_left', if_true, if_false, M, A23, A24, ts, yy, pe, Re]
          rw [hG]
          have no : ¬ (t * Y y ≤ l ∧ r % n = 0 ∧ (t = 0 ∨ s - y ≤ 60) ∧ (r = 0 ∨ s - x ≤ 60) ∧ smN X 61 + t ≤ P ∧ smN Y 61 + r / n ≤ Q) → ¬ okT n P Q x y s X Y l t := fun a b => a (by unfold okT at b; rw [hR] at b; exact b)
          have yes : (t * Y y ≤ l ∧ r % n = 0 ∧ (t = 0 ∨ s - y ≤ 60) ∧ (r = 0 ∨ s - x ≤ 60) ∧ smN X 61 + t ≤ P ∧ smN Y 61 + r / n ≤ Q) → okT n P Q x y s X Y l t := fun b => by unfold okT; rw [hR]; exact b
          have sP : ((smN X 61 : Nat) : Int) + ((t : Nat) : Int) = ((smN X 61 + t : Nat) : Int) := rfl
          have sQ : ((smN Y 61 : Nat) : Int) + ((r / n : Nat) : Int) = ((smN Y 61 + r / n : Nat) : Int) := rfl
          by_cases c2 : r % n = 0
          · have q176 : (t = 0 ∨ s - y ≤ 60) → (r = 0 ∨ s - x ≤ 60) → PW (D + 2) 243 176 [some (.ref m), some (.int (iI x)), some (.int (iI n)), some (.int (iI low)), some (.int (iI high)), some (.int (iI y)), some (.int (iI s)), some (.int (iI l)), some (.int (iI 0)), some (.int (iI t)), some (.int (iI r))] [] g1 R := fun c3 c4 => by
              have q183 : smN X 61 + t ≤ P → PW (D + 2) 243 183 [some (.ref m), some (.int (iI x)), some (.int (iI n)), some (.int (iI low)), some (.int (iI high)), some (.int (iI y)), some (.int (iI s)), some (.int (iI l)), some (.int (iI 0)), some (.int (iI t)), some (.int (iI r))] [] g1 R := fun c5 => by
                obtain ⟨W, hW⟩ : ∃ W, smN Y 61 + r / n = W := ⟨_, rfl⟩
                rw [hW] at sQ no yes
                have Wb : W ≤ 1064 := by omega
                by_cases c6 : W ≤ Q
                · refine vs_ok 9 ?_
                  rw [show ((gRes 243).drop 183).take 9 = [.aload 0, .getfield 12440, .iload 10, .iload 2, .idiv, .iadd, .aload 0, .getfield 12420, .if_icmp .le 193] from rfl]
                  simp (disch := omega) only [vs_iadd, vs_idiv, vs_if_icmp, vs_getfield, vs_aload0, vs_iload2, vs_iload10, vs_nil, gv_0, gv_1, gv_2, gv_3, pv_0, pv_1, va_rf_s, Nat.reduceDiv, Nat.reduceMod, Nat.reduceAdd, Nat.reduceMul, Int.reduceToNat, true_and, and_true, and_self, cP_eq, cP_ne, cP_lt, cP_ge, cP_gt, cP_le, eL_i, eL_l, eL_r, eL_n, Option.toList_none, Option.toList_some, List.nil_append, List.cons_append, kkI, llI, nnI, rrI, jjI, kkJ, llJ, nnJ, rrJ, iiJ, zIIs, zJJs, nEF, nET, and_false, false_and, jmin, jmax, catS_n, catS_i, catS_r, catS_l, Nat.reduceLeDiff, j1eq1, n21, jt0, jt1, Bool.false_eq_true, Classical.not_not, true_or, or_true, false_or, or_false, true_imp_iff, false_imp_iff, not_true_eq_false, not_false_eq_true, jif0, jif1, jifb, ltT, ltF, leT, leF, eqT, eqF, jlt, jle, jeq, jlt0, jle0, jeq0, jge0, jgt0, jinB, jnat, clt, cle, ceq, cgt, cge, lI_add, lI_sub, lI_mul, jadd, jsub, jmul, jneg, jtol, b010, b011, pv_2t, Int.toNat_natCast, Option.some.injEq, exists_eq_left', if_true, if_false, M1, ty1.2.1, B42, dn, sQ]
                  exact p193 (yes ⟨c, c2, c3, c4, c5, c6⟩)
                · refine vs_ok 9 ?_
                  rw [show ((gRes 243).drop 183).take 9 = [.aload 0, .getfield 12440, .iload 10, .iload 2, .idiv, .iadd, .aload 0, .getfield 12420, .if_icmp .le 193] from rfl]
                  simp (disch := omega) only [vs_iadd, vs_idiv, vs_if_icmp, vs_getfield, vs_aload0, vs_iload2, vs_iload10, vs_nil, gv_0, gv_1, gv_2, gv_3, pv_0, pv_1, va_rf_s, Nat.reduceDiv, Nat.reduceMod, Nat.reduceAdd, Nat.reduceMul, Int.reduceToNat, true_and, and_true, and_self, cP_eq, cP_ne, cP_lt, cP_ge, cP_gt, cP_le, eL_i, eL_l, eL_r, eL_n, Option.toList_none, Option.toList_some, List.nil_append, List.cons_append, kkI, llI, nnI, rrI, jjI, kkJ, llJ, nnJ, rrJ, iiJ, zIIs, zJJs, nEF, nET, and_false, false_and, jmin, jmax, catS_n, catS_i, catS_r, catS_l, Nat.reduceLeDiff, j1eq1, n21, jt0, jt1, Bool.false_eq_true, Classical.not_not, true_or, or_true, false_or, or_false, true_imp_iff, false_imp_iff, not_true_eq_false, not_false_eq_true, jif0, jif1, jifb, ltT, ltF, leT, leF, eqT, eqF, jlt, jle, jeq, jlt0, jle0, jeq0, jge0, jgt0, jinB, jnat, clt, cle, ceq, cgt, cge, lI_add, lI_sub, lI_mul, jadd, jsub, jmul, jneg, jtol, b010, b011, pv_2t, Int.toNat_natCast, Option.some.injEq, exists_eq_left', if_true, if_false, M1, ty1.2.1, B42, dn, sQ]
                  refine vs_ok 1 ?_
                  rw [show ((gRes 243).drop 192).take 1 = [.goto 121] from rfl]
                  simp (disch := omega) only [vs_goto, vs_nil, gv_0, gv_1, gv_2, gv_3, pv_0, pv_1, va_rf_s, Nat.reduceDiv, Nat.reduceMod, Nat.reduceAdd, Nat.reduceMul, Int.reduceToNat, true_and, and_true, and_self, cP_eq, cP_ne, cP_lt, cP_ge, cP_gt, cP_le, eL_i, eL_l, eL_r, eL_n, Option.toList_none, Option.toList_some, List.nil_append, List.cons_append, kkI, llI, nnI, rrI, jjI, kkJ, llJ, nnJ, rrJ, iiJ, zIIs, zJJs, nEF, nET, and_false, false_and, jmin, jmax, catS_n, catS_i, catS_r, catS_l, Nat.reduceLeDiff, j1eq1, n21, jt0, jt1, Bool.false_eq_true, Classical.not_not, true_or, or_true, false_or, or_false, true_imp_iff, false_imp_iff, not_true_eq_false, not_false_eq_true, jif0, jif1, jifb, ltT, ltF, leT, leF, eqT, eqF, jlt, jle, jeq, jlt0, jle0, jeq0, jge0, jgt0, jinB, jnat, clt, cle, ceq, cgt, cge, lI_add, lI_sub, lI_mul, jadd, jsub, jmul, jneg, jtol, b010, b011, pv_2t, Int.toNat_natCast, Option.some.injEq, exists_eq_left', if_true, if_false]
                  exact p121 _ _ (no fun z => c6 z.2.2.2.2.2)
              by_cases c5 : smN X 61 + t ≤ P
              · refine vs_ok 7 ?_
                rw [show ((gRes 243).drop 176).take 7 = [.aload 0, .getfield 12430, .iload 9, .iadd, .aload 0, .getfield 12410, .if_icmp .gt 121] from rfl]
                simp (disch := omega) only [vs_iadd, vs_if_icmp, vs_getfield, vs_aload0, vs_iload9, vs_nil, gv_0, gv_1, gv_2, gv_3, pv_0, pv_1, va_rf_s, Nat.reduceDiv, Nat.reduceMod, Nat.reduceAdd, Nat.reduceMul, Int.reduceToNat, true_and, and_true, and_self, cP_eq, cP_ne, cP_lt, cP_ge, cP_gt, cP_le, eL_i, eL_l, eL_r, eL_n, Option.toList_none, Option.toList_some, List.nil_append, List.cons_append, kkI, llI, nnI, rrI, jjI, kkJ, llJ, nnJ, rrJ, iiJ, zIIs, zJJs, nEF, nET, and_false, false_and, jmin, jmax, catS_n, catS_i, catS_r, catS_l, Nat.reduceLeDiff, j1eq1, n21, jt0, jt1, Bool.false_eq_true, Classical.not_not, true_or, or_true, false_or, or_false, true_imp_iff, false_imp_iff, not_true_eq_false, not_false_eq_true, jif0, jif1, jifb, ltT, ltF, leT, leF, eqT, eqF, jlt, jle, jeq, jlt0, jle0, jeq0, jge0, jgt0, jinB, jnat, clt, cle, ceq, cgt, cge, lI_add, lI_sub, lI_mul, jadd, jsub, jmul, jneg, jtol, b010, b011, pv_2t, Int.toNat_natCast, Option.some.injEq, exists_eq_left', if_true, if_false, M1, ty1.1, B41, sP]
                exact q183 c5
              · refine vs_ok 7 ?_
                rw [show ((gRes 243).drop 176).take 7 = [.aload 0, .getfield 12430, .iload 9, .iadd, .aload 0, .getfield 12410, .if_icmp .gt 121] from rfl]
                simp (disch := omega) only [vs_iadd, vs_if_icmp, vs_getfield, vs_aload0, vs_iload9, vs_nil, gv_0, gv_1, gv_2, gv_3, pv_0, pv_1, va_rf_s, Nat.reduceDiv, Nat.reduceMod, Nat.reduceAdd, Nat.reduceMul, Int.reduceToNat, true_and, and_true, and_self, cP_eq, cP_ne, cP_lt, cP_ge, cP_gt, cP_le, eL_i, eL_l, eL_r, eL_n, Option.toList_none, Option.toList_some, List.nil_append, List.cons_append, kkI, llI, nnI, rrI, jjI, kkJ, llJ, nnJ, rrJ, iiJ, zIIs, zJJs, nEF, nET, and_false, false_and, jmin, jmax, catS_n, catS_i, catS_r, catS_l, Nat.reduceLeDiff, j1eq1, n21, jt0, jt1, Bool.false_eq_true, Classical.not_not, true_or, or_true, false_or, or_false, true_imp_iff, false_imp_iff, not_true_eq_false, not_false_eq_true, jif0, jif1, jifb, ltT, ltF, leT, leF, eqT, eqF, jlt, jle, jeq, jlt0, jle0, jeq0, jge0, jgt0, jinB, jnat, clt, cle, ceq, cgt, cge, lI_add, lI_sub, lI_mul, jadd, jsub, jmul, jneg, jtol, b010, b011, pv_2t, Int.toNat_natCast, Option.some.injEq, exists_eq_left', if_true, if_false, M1, ty1.1, B41, sP]
                exact p121 _ _ (no fun z => c5 z.2.2.2.2.1)
            have q169 : (t = 0 ∨ s - y ≤ 60) → PW (D + 2) 243 169 [some (.ref m), some (.int (iI x)), some (.int (iI n)), some (.int (iI low)), some (.int (iI high)), some (.int (iI y)), some (.int (iI s)), some (.int (iI l)), some (.int (iI 0)), some (.int (iI t)), some (.int (iI r))] [] g1 R := fun c3 => by
              by_cases c4 : r = 0
              · refine vs_ok 2 ?_
                rw [show ((gRes 243).drop 169).take 2 = [.iload 10, .ifCond .le 176] from rfl]
                simp (disch := omega) only [vs_ifCond, vs_iload10, vs_nil, gv_0, gv_1, gv_2, gv_3, pv_0, pv_1, va_rf_s, Nat.reduceDiv, Nat.reduceMod, Nat.reduceAdd, Nat.reduceMul, Int.reduceToNat, true_and, and_true, and_self, cP_eq, cP_ne, cP_lt, cP_ge, cP_gt, cP_le, eL_i, eL_l, eL_r, eL_n, Option.toList_none, Option.toList_some, List.nil_append, List.cons_append, kkI, llI, nnI, rrI, jjI, kkJ, llJ, nnJ, rrJ, iiJ, zIIs, zJJs, nEF, nET, and_false, false_and, jmin, jmax, catS_n, catS_i, catS_r, catS_l, Nat.reduceLeDiff, j1eq1, n21, jt0, jt1, Bool.false_eq_true, Classical.not_not, true_or, or_true, false_or, or_false, true_imp_iff, false_imp_iff, not_true_eq_false, not_false_eq_true, jif0, jif1, jifb, ltT, ltF, leT, leF, eqT, eqF, jlt, jle, jeq, jlt0, jle0, jeq0, jge0, jgt0, jinB, jnat, clt, cle, ceq, cgt, cge, lI_add, lI_sub, lI_mul, jadd, jsub, jmul, jneg, jtol, b010, b011, pv_2t, Int.toNat_natCast, Option.some.injEq, exists_eq_left', if_true, if_false]
                exact q176 c3 (Or.inl c4)
              · refine vs_ok 2 ?_
                rw [show ((gRes 243).drop 169).take 2 = [.iload 10, .ifCond .le 176] from rfl]
                simp (disch := omega) only [vs_ifCond, vs_iload10, vs_nil, gv_0, gv_1, gv_2, gv_3, pv_0, pv_1, va_rf_s, Nat.reduceDiv, Nat.reduceMod, Nat.reduceAdd, Nat.reduceMul, Int.reduceToNat, true_and, and_true, and_self, cP_eq, cP_ne, cP_lt, cP_ge, cP_gt, cP_le, eL_i, eL_l, eL_r, eL_n, Option.toList_none, Option.toList_some, List.nil_append, List.cons_append, kkI, llI, nnI, rrI, jjI, kkJ, llJ, nnJ, rrJ, iiJ, zIIs, zJJs, nEF, nET, and_false, false_and, jmin, jmax, catS_n, catS_i, catS_r, catS_l, Nat.reduceLeDiff, j1eq1, n21, jt0, jt1, Bool.false_eq_true, Classical.not_not, true_or, or_true, false_or, or_false, true_imp_iff, false_imp_iff, not_true_eq_false, not_false_eq_true, jif0, jif1, jifb, ltT, ltF, leT, leF, eqT, eqF, jlt, jle, jeq, jlt0, jle0, jeq0, jge0, jgt0, jinB, jnat, clt, cle, ceq, cgt, cge, lI_add, lI_sub, lI_mul, jadd, jsub, jmul, jneg, jtol, b010, b011, pv_2t, Int.toNat_natCast, Option.some.injEq, exists_eq_left', if_true, if_false]
                by_cases c5 : s - x ≤ 60
                · refine vs_ok 5 ?_
                  rw [show ((gRes 243).drop 171).take 5 = [.iload 6, .iload 1, .isub, .iconst 60, .if_icmp .gt 121] from rfl]
                  simp (disch := omega) only [vs_isub, vs_iconst, vs_if_icmp, vs_iload1, vs_iload6, vs_nil, gv_0, gv_1, gv_2, gv_3, pv_0, pv_1, va_rf_s, Nat.reduceDiv, Nat.reduceMod, Nat.reduceAdd, Nat.reduceMul, Int.reduceToNat, true_and, and_true, and_self, cP_eq, cP_ne, cP_lt, cP_ge, cP_gt, cP_le, eL_i, eL_l, eL_r, eL_n, Option.toList_none, Option.toList_some, List.nil_append, List.cons_append, kkI, llI, nnI, rrI, jjI, kkJ, llJ, nnJ, rrJ, iiJ, zIIs, zJJs, nEF, nET, and_false, false_and, jmin, jmax, catS_n, catS_i, catS_r, catS_l, Nat.reduceLeDiff, j1eq1, n21, jt0, jt1, Bool.false_eq_true, Classical.not_not, true_or, or_true, false_or, or_false, true_imp_iff, false_imp_iff, not_true_eq_false, not_false_eq_true, jif0, jif1, jifb, ltT, ltF, leT, leF, eqT, eqF, jlt, jle, jeq, jlt0, jle0, jeq0, jge0, jgt0, jinB, jnat, clt, cle, ceq, cgt, cge, lI_add, lI_sub, lI_mul, jadd, jsub, jmul, jneg, jtol, b010, b011, pv_2t, Int.toNat_natCast, Option.some.injEq, exists_eq_left', if_true, if_false, esx]
                  exact q176 c3 (Or.inr c5)
                · refine vs_ok 5 ?_
                  rw [show ((gRes 243).drop 171).take 5 = [.iload 6, .iload 1, .isub, .iconst 60, .if_icmp .gt 121] from rfl]
                  simp (disch := omega) only [vs_isub, vs_iconst, vs_if_icmp, vs_iload1, vs_iload6, vs_nil, gv_0, gv_1, gv_2, gv_3, pv_0, pv_1, va_rf_s, Nat.reduceDiv, Nat.reduceMod, Nat.reduceAdd, Nat.reduceMul, Int.reduceToNat, true_and, and_true, and_self, cP_eq, cP_ne, cP_lt, cP_ge, cP_gt, cP_le, eL_i, eL_l, eL_r, eL_n, Option.toList_none, Option.toList_some, List.nil_append, List.cons_append, kkI, llI, nnI, rrI, jjI, kkJ, llJ, nnJ, rrJ, iiJ, zIIs, zJJs, nEF, nET, and_false, false_and, jmin, jmax, catS_n, catS_i, catS_r, catS_l, Nat.reduceLeDiff, j1eq1, n21, jt0, jt1, Bool.false_eq_true, Classical.not_not, true_or, or_true, false_or, or_false, true_imp_iff, false_imp_iff, not_true_eq_false, not_false_eq_true, jif0, jif1, jifb, ltT, ltF, leT, leF, eqT, eqF, jlt, jle, jeq, jlt0, jle0, jeq0, jge0, jgt0, jinB, jnat, clt, cle, ceq, cgt, cge, lI_add, lI_sub, lI_mul, jadd, jsub, jmul, jneg, jtol, b010, b011, pv_2t, Int.toNat_natCast, Option.some.injEq, exists_eq_left', if_true, if_false, esx]
                  exact p121 _ _ (no fun z => by have := z.2.2.2.1; omega)
            refine vs_ok 4 ?_
            rw [show ((gRes 243).drop 158).take 4 = [.iload 10, .iload 2, .irem, .ifCond .ne 121] from rfl]
            simp (disch := omega) only [vs_irem, vs_ifCond, vs_iload2, vs_iload10, vs_nil, gv_0, gv_1, gv_2, gv_3, pv_0, pv_1, va_rf_s, Nat.reduceDiv, Nat.reduceMod, Nat.reduceAdd, Nat.reduceMul, Int.reduceToNat, true_and, and_true, and_self, cP_eq, cP_ne, cP_lt, cP_ge, cP_gt, cP_le, eL_i, eL_l, eL_r, eL_n, Option.toList_none, Option.toList_some, List.nil_append, List.cons_append, kkI, llI, nnI, rrI, jjI, kkJ, llJ, nnJ, rrJ, iiJ, zIIs, zJJs, nEF, nET, and_false, false_and, jmin, jmax, catS_n, catS_i, catS_r, catS_l, Nat.reduceLeDiff, j1eq1, n21, jt0, jt1, Bool.false_eq_true, Classical.not_not, true_or, or_true, false_or, or_false, true_imp_iff, false_imp_iff, not_true_eq_false, not_false_eq_true, jif0, jif1, jifb, ltT, ltF, leT, leF, eqT, eqF, jlt, jle, jeq, jlt0, jle0, jeq0, jge0, jgt0, jinB, jnat, clt, cle, ceq, cgt, cge, lI_add, lI_sub, lI_mul, jadd, jsub, jmul, jneg, jtol, b010, b011, pv_2t, Int.toNat_natCast, Option.some.injEq, exists_eq_left', if_true, if_false, mn, c2]
            by_cases c4 : t = 0
            · refine vs_ok 2 ?_
              rw [show ((gRes 243).drop 162).take 2 = [.iload 9, .ifCond .le 169] from rfl]
              simp (disch := omega) only [vs_ifCond, vs_iload9, vs_nil, gv_0, gv_1, gv_2, gv_3, pv_0, pv_1, va_rf_s, Nat.reduceDiv, Nat.reduceMod, Nat.reduceAdd, Nat.reduceMul, Int.reduceToNat, true_and, and_true, and_self, cP_eq, cP_ne, cP_lt, cP_ge, cP_gt, cP_le, eL_i, eL_l, eL_r, eL_n, Option.toList_none, Option.toList_some, List.nil_append, List.cons_append, kkI, llI, nnI, rrI, jjI, kkJ, llJ, nnJ, rrJ, iiJ, zIIs, zJJs, nEF, nET, and_false, false_and, jmin, jmax, catS_n, catS_i, catS_r, catS_l, Nat.reduceLeDiff, j1eq1, n21, jt0, jt1, Bool.false_eq_true, Classical.not_not, true_or, or_true, false_or, or_false, true_imp_iff, false_imp_iff, not_true_eq_false, not_false_eq_true, jif0, jif1, jifb, ltT, ltF, leT, leF, eqT, eqF, jlt, jle, jeq, jlt0, jle0, jeq0, jge0, jgt0, jinB, jnat, clt, cle, ceq, cgt, cge, lI_add, lI_sub, lI_mul, jadd, jsub, jmul, jneg, jtol, b010, b011, pv_2t, Int.toNat_natCast, Option.some.injEq, exists_eq_left', if_true, if_false]
              exact q169 (Or.inl c4)
            · refine vs_ok 2 ?_
              rw [show ((gRes 243).drop 162).take 2 = [.iload 9, .ifCond .le 169] from rfl]
              simp (disch := omega) only [vs_ifCond, vs_iload9, vs_nil, gv_0, gv_1, gv_2, gv_3, pv_0, pv_1, va_rf_s, Nat.reduceDiv, Nat.reduceMod, Nat.reduceAdd, Nat.reduceMul, Int.reduceToNat, true_and, and_true, and_self, cP_eq, cP_ne, cP_lt, cP_ge, cP_gt, cP_le, eL_i, eL_l, eL_r, eL_n, Option.toList_none, Option.toList_some, List.nil_append, List.cons_append, kkI, llI, nnI, rrI, jjI, kkJ, llJ, nnJ, rrJ, iiJ, zIIs, zJJs, nEF, nET, and_false, false_and, jmin, jmax, catS_n, catS_i, catS_r, catS_l, Nat.reduceLeDiff, j1eq1, n21, jt0, jt1, Bool.false_eq_true, Classical.not_not, true_or, or_true, false_or, or_false, true_imp_iff, false_imp_iff, not_true_eq_false, not_false_eq_true, jif0, jif1, jifb, ltT, ltF, leT, leF, eqT, eqF, jlt, jle, jeq, jlt0, jle0, jeq0, jge0, jgt0, jinB, jnat, clt, cle, ceq, cgt, cge, lI_add, lI_sub, lI_mul, jadd, jsub, jmul, jneg, jtol, b010, b011, pv_2t, Int.toNat_natCast, Option.some.injEq, exists_eq_left', if_true, if_false]
              by_cases c5 : s - y ≤ 60
              · refine vs_ok 5 ?_
                rw [show ((gRes 243).drop 164).take 5 = [.iload 6, .iload 5, .isub, .iconst 60, .if_icmp .gt 121] from rfl]
                simp (disch := omega) only [vs_isub, vs_iconst, vs_if_icmp, vs_iload5, vs_iload6, vs_nil, gv_0, gv_1, gv_2, gv_3, pv_0, pv_1, va_rf_s, Nat.reduceDiv, Nat.reduceMod, Nat.reduceAdd, Nat.reduceMul, Int.reduceToNat, true_and, and_true, and_self, cP_eq, cP_ne, cP_lt, cP_ge, cP_gt, cP_le, eL_i, eL_l, eL_r, eL_n, Option.toList_none, Option.toList_some, List.nil_append, List.cons_append, kkI, llI, nnI, rrI, jjI, kkJ, llJ, nnJ, rrJ, iiJ, zIIs, zJJs, nEF, nET, and_false, false_and, jmin, jmax, catS_n, catS_i, catS_r, catS_l, Nat.reduceLeDiff, j1eq1, n21, jt0, jt1, Bool.false_eq_true, Classical.not_not, true_or, or_true, false_or, or_false, true_imp_iff, false_imp_iff, not_true_eq_false, not_false_eq_true, jif0, jif1, jifb, ltT, ltF, leT, leF, eqT, eqF, jlt, jle, jeq, jlt0, jle0, jeq0, jge0, jgt0, jinB, jnat, clt, cle, ceq, cgt, cge, lI_add, lI_sub, lI_mul, jadd, jsub, jmul, jneg, jtol, b010, b011, pv_2t, Int.toNat_natCast, Option.some.injEq, exists_eq_left', if_true, if_false, esy]
                exact q169 (Or.inr c5)
              · refine vs_ok 5 ?_
                rw [show ((gRes 243).drop 164).take 5 = [.iload 6, .iload 5, .isub, .iconst 60, .if_icmp .gt 121] from rfl]
                simp (disch := omega) only [vs_isub, vs_iconst, vs_if_icmp, vs_iload5, vs_iload6, vs_nil, gv_0, gv_1, gv_2, gv_3, pv_0, pv_1, va_rf_s, Nat.reduceDiv, Nat.reduceMod, Nat.reduceAdd, Nat.reduceMul, Int.reduceToNat, true_and, and_true, and_self, cP_eq, cP_ne, cP_lt, cP_ge, cP_gt, cP_le, eL_i, eL_l, eL_r, eL_n, Option.toList_none, Option.toList_some, List.nil_append, List.cons_append, kkI, llI, nnI, rrI, jjI, kkJ, llJ, nnJ, rrJ, iiJ, zIIs, zJJs, nEF, nET, and_false, false_and, jmin, jmax, catS_n, catS_i, catS_r, catS_l, Nat.reduceLeDiff, j1eq1, n21, jt0, jt1, Bool.false_eq_true, Classical.not_not, true_or, or_true, false_or, or_false, true_imp_iff, false_imp_iff, not_true_eq_false, not_false_eq_true, jif0, jif1, jifb, ltT, ltF, leT, leF, eqT, eqF, jlt, jle, jeq, jlt0, jle0, jeq0, jge0, jgt0, jinB, jnat, clt, cle, ceq, cgt, cge, lI_add, lI_sub, lI_mul, jadd, jsub, jmul, jneg, jtol, b010, b011, pv_2t, Int.toNat_natCast, Option.some.injEq, exists_eq_left', if_true, if_false, esy]
                exact p121 _ _ (no fun z => by have := z.2.2.1; omega)
          · have z : ¬ Int32.ofInt ((r % n : Nat) : Int) = 0 := fun z => c2 (by
              have := (zeq0 (x := ((r % n : Nat) : Int)) (by have := Nat.mod_le r n; constructor <;> omega)).mp z
              omega)
            refine vs_ok 4 ?_
            rw [show ((gRes 243).drop 158).take 4 = [.iload 10, .iload 2, .irem, .ifCond .ne 121] from rfl]
            simp (disch := omega) only [vs_irem, vs_ifCond, vs_iload2, vs_iload10, vs_nil, gv_0, gv_1, gv_2, gv_3, pv_0, pv_1, va_rf_s, Nat.reduceDiv, Nat.reduceMod, Nat.reduceAdd, Nat.reduceMul, Int.reduceToNat, true_and, and_true, and_self, cP_eq, cP_ne, cP_lt, cP_ge, cP_gt, cP_le, eL_i, eL_l, eL_r, eL_n, Option.toList_none, Option.toList_some, List.nil_append, List.cons_append, kkI, llI, nnI, rrI, jjI, kkJ, llJ, nnJ, rrJ, iiJ, zIIs, zJJs, nEF, nET, and_false, false_and, jmin, jmax, catS_n, catS_i, catS_r, catS_l, Nat.reduceLeDiff, j1eq1, n21, jt0, jt1, Bool.false_eq_true, Classical.not_not, true_or, or_true, false_or, or_false, true_imp_iff, false_imp_iff, not_true_eq_false, not_false_eq_true, jif0, jif1, jifb, ltT, ltF, leT, leF, eqT, eqF, jlt, jle, jeq, jlt0, jle0, jeq0, jge0, jgt0, jinB, jnat, clt, cle, ceq, cgt, cge, lI_add, lI_sub, lI_mul, jadd, jsub, jmul, jneg, jtol, b010, b011, pv_2t, Int.toNat_natCast, Option.some.injEq, exists_eq_left', if_true, if_false, mn, z]
            exact p121 _ _ (no fun z => c2 z.2.1)
        · refine vs_ok 2 ?_
          rw [show ((gRes 243).drop 121).take 2 = [.iload 8, .ifCond .ne 208] from rfl]
          simp (disch := omega) only [vs_ifCond, vs_iload8, vs_nil, gv_0, gv_1, gv_2, gv_3, pv_0, pv_1, va_rf_s, Nat.reduceDiv, Nat.reduceMod, Nat.reduceAdd, Nat.reduceMul, Int.reduceToNat, true_and, and_true, and_self, cP_eq, cP_ne, cP_lt, cP_ge, cP_gt, cP_le, eL_i, eL_l, eL_r, eL_n, Option.toList_none, Option.toList_some, List.nil_append, List.cons_append, kkI, llI, nnI, rrI, jjI, kkJ, llJ, nnJ, rrJ, iiJ, zIIs, zJJs, nEF, nET, and_false, false_and, jmin, jmax, catS_n, catS_i, catS_r, catS_l, Nat.reduceLeDiff, j1eq1, n21, jt0, jt1, Bool.false_eq_true, Classical.not_not, true_or, or_true, false_or, or_false, true_imp_iff, false_imp_iff, not_true_eq_false, not_false_eq_true, jif0, jif1, jifb, ltT, ltF, leT, leF, eqT, eqF, jlt, jle, jeq, jlt0, jle0, jeq0, jge0, jgt0, jinB, jnat, clt, cle, ceq, cgt, cge, lI_add, lI_sub, lI_mul, jadd, jsub, jmul, jneg, jtol, b010, b011, pv_2t, Int.toNat_natCast, Option.some.injEq, exists_eq_left', if_true, if_false]
          refine vs_ok 2 ?_
          rw [show ((gRes 243).drop 123).take 2 = [.iload 7, .ifCond .lt 208] from rfl]
          simp (disch := omega) only [vs_ifCond, vs_iload7, vs_nil, gv_0, gv_1, gv_2, gv_3, pv_0, pv_1, va_rf_s, Nat.reduceDiv, Nat.reduceMod, Nat.reduceAdd, Nat.reduceMul, Int.reduceToNat, true_and, and_true, and_self, cP_eq, cP_ne, cP_lt, cP_ge, cP_gt, cP_le, eL_i, eL_l, eL_r, eL_n, Option.toList_none, Option.toList_some, List.nil_append, List.cons_append, kkI, llI, nnI, rrI, jjI, kkJ, llJ, nnJ, rrJ, iiJ, zIIs, zJJs, nEF, nET, and_false, false_and, jmin, jmax, catS_n, catS_i, catS_r, catS_l, Nat.reduceLeDiff, j1eq1, n21, jt0, jt1, Bool.false_eq_true, Classical.not_not, true_or, or_true, false_or, or_false, true_imp_iff, false_imp_iff, not_true_eq_false, not_false_eq_true, jif0, jif1, jifb, ltT, ltF, leT, leF, eqT, eqF, jlt, jle, jeq, jlt0, jle0, jeq0, jge0, jgt0, jinB, jnat, clt, cle, ceq, cgt, cge, lI_add, lI_sub, lI_mul, jadd, jsub, jmul, jneg, jtol, b010, b011, pv_2t, Int.toNat_natCast, Option.some.injEq, exists_eq_left', if_true, if_false]
          refine vs_ok 11 ?_
          rw [show ((gRes 243).drop 125).take 11 = [.aload 0, .getfield 12362, .iload 6, .iaload, .aload 0, .getfield 12352, .iload 5, .iaload, .imul, .iload 7, .if_icmp .gt 208] from rfl]
          simp (disch := omega) only [vs_imul, vs_if_icmp, vs_getfield, vs_iaload, vs_aload0, vs_iload5, vs_iload6, vs_iload7, vs_nil, gv_0, gv_1, gv_2, gv_3, pv_0, pv_1, va_rf_s, Nat.reduceDiv, Nat.reduceMod, Nat.reduceAdd, Nat.reduceMul, Int.reduceToNat, true_and, and_true, and_self, cP_eq, cP_ne, cP_lt, cP_ge, cP_gt, cP_le, eL_i, eL_l, eL_r, eL_n, Option.toList_none, Option.toList_some, List.nil_append, List.cons_append, kkI, llI, nnI, rrI, jjI, kkJ, llJ, nnJ, rrJ, iiJ, zIIs, zJJs, nEF, nET, and_false, false_and, jmin, jmax, catS_n, catS_i, catS_r, catS_l, Nat.reduceLeDiff, j1eq1, n21, jt0, jt1, Bool.false_eq_true, Classical.not_not, true_or, or_true, false_or, or_false, true_imp_iff, false_imp_iff, not_true_eq_false, not_false_eq_true, jif0, jif1, jifb, ltT, ltF, leT, leF, eqT, eqF, jlt, jle, jeq, jlt0, jle0, jeq0, jge0, jgt0, jinB, jnat, clt, cle, ceq, cgt, cge, lI_add, lI_sub, lI_mul, jadd, jsub, jmul, jneg, jtol, b010, b011, pv_2t, Int.toNat_natCast, Option.some.injEq, exists_eq_left', if_true, if_false, M, A23, A24, ts, yy, pe]
          refine p208 L g' none l9 l10 _ f e ty tr j0 fun l7 l8 l9 l10 => K g' l7 l8 l9 l10 f e ty tr ?_
          rw [opL_nil (j + 1) t c, List.append_nil]
          exact j0
    have cb : ∀ v, v ≤ 61 → smN (cvT X Y s) v ≤ 4096 * v := by
      intro v
      induction v with
      | zero => intro _; exact Nat.le_refl 0
      | succ v iv =>
        intro hv
        have : cvT X Y s v ≤ 4096 := by
          unfold cvT
          split
          · exact Nat.mul_le_mul (xb v (by omega)) (yb (s - v) (by omega))
          · omega
        have := iv (by omega)
        show smN (cvT X Y s) v + cvT X Y s v ≤ _
        omega
    have cb61 : cvN X Y s ≤ 4096 * 61 := cb 61 (Nat.le_refl 61)
    refine toLo X Y g l7 l8 l9 l10 hg f ty (fun _ _ _ => rfl) (fun _ _ _ => rfl) fun g2 l9 l10 f2 e2 ty2 => ?_
    have hg2 := hg.fi f2
    have r2 := f2.1.2.2.2.2.2.1
    have fw : fi (tcS m) g g2 := f2.wk fun z h => by unfold tcS; omega
    have f' : fi (fun z => tcS m z ∨ z = m + 25 ∨ z = m + 26) h g2 := f.tr (fw.wk fun z h => Or.inl h)
    have e' : ∀ i, i ≠ 39 → i ≠ 40 → i ≠ 43 → i ≠ 44 → zI g2 m i = zI h m i := fun i h1 h2 h3 h4 => by rw [e2 i h3 h4]; exact e i h1 h2 h3 h4
    have tr' : ∀ i, i < s → zI g2 (m + 24) i = zI g (m + 24) i := fun i _ => by rw [r2 (m + 24) (by omega)]
    have j' := hJ L g g2 j hg ⟨fw, e2⟩
    rw [em] at K
    by_cases c : cvN X Y s ≤ tg s
    · rw [if_pos c] at K
      have el : (tg s : Int) - (cvN X Y s : Int) = ((tg s - cvN X Y s : Nat) : Int) := by omega
      rw [el]
      exact lo (tg s - cvN X Y s) (by omega) (tg s - cvN X Y s + 1) 0 rfl L g2 l9 l10 hg2 f' e' ty2 tr' (by rw [r2 (m + 24) (by omega)]; exact t0) j' el K
    · rw [if_neg c] at K
      generalize hV : (tg s : Int) - (cvN X Y s : Int) = V
      have Vn : V < 0 := by omega
      have Vb : -300000 ≤ V := by omega
      refine vs_ok 2 ?_
      rw [show ((gRes 243).drop 121).take 2 = [.iload 8, .ifCond .ne 208] from rfl]
      simp (disch := omega) only [vs_ifCond, vs_iload8, vs_nil, gv_0, gv_1, gv_2, gv_3, pv_0, pv_1, va_rf_s, Nat.reduceDiv, Nat.reduceMod, Nat.reduceAdd, Nat.reduceMul, Int.reduceToNat, true_and, and_true, and_self, cP_eq, cP_ne, cP_lt, cP_ge, cP_gt, cP_le, eL_i, eL_l, eL_r, eL_n, Option.toList_none, Option.toList_some, List.nil_append, List.cons_append, kkI, llI, nnI, rrI, jjI, kkJ, llJ, nnJ, rrJ, iiJ, zIIs, zJJs, nEF, nET, and_false, false_and, jmin, jmax, catS_n, catS_i, catS_r, catS_l, Nat.reduceLeDiff, j1eq1, n21, jt0, jt1, Bool.false_eq_true, Classical.not_not, true_or, or_true, false_or, or_false, true_imp_iff, false_imp_iff, not_true_eq_false, not_false_eq_true, jif0, jif1, jifb, ltT, ltF, leT, leF, eqT, eqF, jlt, jle, jeq, jlt0, jle0, jeq0, jge0, jgt0, jinB, jnat, clt, cle, ceq, cgt, cge, lI_add, lI_sub, lI_mul, jadd, jsub, jmul, jneg, jtol, b010, b011, pv_2t, Int.toNat_natCast, Option.some.injEq, exists_eq_left', if_true, if_false]
      refine vs_ok 2 ?_
      rw [show ((gRes 243).drop 123).take 2 = [.iload 7, .ifCond .lt 208] from rfl]
      simp (disch := omega) only [vs_ifCond, vs_iload7, vs_nil, gv_0, gv_1, gv_2, gv_3, pv_0, pv_1, va_rf_s, Nat.reduceDiv, Nat.reduceMod, Nat.reduceAdd, Nat.reduceMul, Int.reduceToNat, true_and, and_true, and_self, cP_eq, cP_ne, cP_lt, cP_ge, cP_gt, cP_le, eL_i, eL_l, eL_r, eL_n, Option.toList_none, Option.toList_some, List.nil_append, List.cons_append, kkI, llI, nnI, rrI, jjI, kkJ, llJ, nnJ, rrJ, iiJ, zIIs, zJJs, nEF, nET, and_false, false_and, jmin, jmax, catS_n, catS_i, catS_r, catS_l, Nat.reduceLeDiff, j1eq1, n21, jt0, jt1, Bool.false_eq_true, Classical.not_not, true_or, or_true, false_or, or_false, true_imp_iff, false_imp_iff, not_true_eq_false, not_false_eq_true, jif0, jif1, jifb, ltT, ltF, leT, leF, eqT, eqF, jlt, jle, jeq, jlt0, jle0, jeq0, jge0, jgt0, jinB, jnat, clt, cle, ceq, cgt, cge, lI_add, lI_sub, lI_mul, jadd, jsub, jmul, jneg, jtol, b010, b011, pv_2t, Int.toNat_natCast, Option.some.injEq, exists_eq_left', if_true, if_false]
      refine p208 L g2 none l9 l10 _ f' e' ty2 tr' j' fun l7 l8 l9 l10 => K g2 l7 l8 l9 l10 f' e' ty2 tr' ?_
      rw [List.append_nil]
      exact j'
