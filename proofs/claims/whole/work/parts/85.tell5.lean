/-! Teller: the told table; readFaces, readLet -/
abbrev upI (F : Nat → Int) (k : Nat) (v : Int) : Nat → Int := fun i => if i = k then v else F i
abbrev upV (V : Nat → RowVal) (k : Nat) (v : RowVal) : Nat → RowVal := fun i => if i = k then v else V i
theorem isTb.keep4 {S : Nat → Prop} {h g : Hp} {t : Nat} {nm : Int} {F Wd : Nat → Int} (ht : isTb h t nm F Wd) (f : fr S h g) (h0 : ∀ q, S q → ¬ (t ≤ q ∧ q < t + 4)) : isTb g t nm F Wd := by
  obtain ⟨a1, a2, a3, a4, a5, a6, a7⟩ := ht
  have n : ∀ k, k < 4 → ¬ S (t + k) := fun k hk z => h0 _ z ⟨by omega, by omega⟩
  have n0 : ¬ S t := n 0 (by omega)
  rw [isTb, f.1, f.2.1, f.2.2.1, f.2.2.2.2.2.2.2 t n0, f.2.2.2.2.2.2.2 (t + 1) (n 1 (by omega)), f.2.2.2.2.2.1 t n0, f.2.2.2.2.2.1 (t + 2) (n 2 (by omega)), f.2.2.2.2.2.1 (t + 3) (n 3 (by omega))]
  exact ⟨a1, a2, a3, a4, a5, a6, a7⟩
abbrev tbA (to : Nat) : Nat → Prop := fun q => to ≤ q ∧ q < to + 28
theorem teS.tb {h g : Hp} {t to tx : Nat} {len : Int} {B : Nat → Int} {s : R4} {st : List RowVal} {tm : Bool} {nm nm' : Nat} {F Wd F' Wd' : Nat → Int} {V V' : Nat → RowVal} (hs : teS h t to tx len B s st tm nm F Wd V) (f : fr (tbA to) h g) (tb' : isTb g to nm' F' Wd') (rw' : ∀ k, k < 12 → rowP g (to + 4 + 2 * k) 200 (V' k)) (wb' : ∀ i, i < 12 → i32 (Wd' i)) : teS g t to tx len B s st tm nm' F' Wd' V' ∧ zI g t = zI h t := by
  obtain ⟨⟨o1, o2, o3, o4, o5⟩, r, k, b, tb, rw0, d1, d2, d3, wb⟩ := hs
  have nt : ∀ q, t ≤ q → q < t + 59 → ¬ tbA to q := fun q h1 h2 z => by unfold tbA at z; omega
  have hR := f.2.2.2.2.2.2.2 t (nt t (by omega) (by omega))
  exact ⟨⟨⟨by rw [f.1]; exact o1, by rw [f.2.2.1]; exact o2, by rw [hR]; exact o3, by rw [hR]; exact o4, by rw [hR]; exact o5⟩, r.keep f (nt _ (by omega) (by omega)) (by unfold tbA; omega), k, b.keep f (fun q z y => nt q (by unfold bnA at y; omega) (by unfold bnA at y; omega) z), tb', rw', d1, d2, d3, wb'⟩, f.2.2.2.2.2.1 t (nt t (by omega) (by omega))⟩
/-- one row of the told table has been written -/
theorem teS.row {h g : Hp} {t to tx k : Nat} {len : Int} {B : Nat → Int} {s : R4} {st : List RowVal} {tm : Bool} {nm : Nat} {F Wd : Nat → Int} {V : Nat → RowVal} {v : RowVal} (hs : teS h t to tx len B s st tm nm F Wd V) (hk : k < 12) (f : fr (rS (to + 4 + 2 * k)) h g) (hr : rowP g (to + 4 + 2 * k) 200 v) : teS g t to tx len B s st tm nm F Wd (upV V k v) ∧ zI g t = zI h t ∧ fr (tbA to) h g := by
  have fA : fr (tbA to) h g := f.wk fun q z => by unfold tbA; rcases z with z | z <;> omega
  have := hs.tb fA (hs.2.2.2.2.1.keep4 f fun q z => by rcases z with z | z <;> omega) (V' := upV V k v) (fun i hi => ?_) hs.2.2.2.2.2.2.2.2.2
  · exact ⟨this.1, this.2, fA⟩
  · show rowP g (to + 4 + 2 * i) 200 (if i = k then v else V i)
    by_cases c : i = k
    · rw [if_pos c, c]
      exact hr
    · rw [if_neg c]
      exact (hs.2.2.2.2.2.1 i hi).keep f (by intro z; rcases z with z | z <;> omega) (by intro z; rcases z with z | z <;> omega)
theorem t_teAddName {d : Nat} {h : Hp} {t to tx : Nat} {len w x : Int} {B : Nat → Int} {s : R4} {st : List RowVal} {tm : Bool} {nm : Nat} {F Wd : Nat → Int} {V : Nat → RowVal} {Q : Nat → Option Value → Hp → Prop} (hs : teS h t to tx len B s st tm nm F Wd V) (hnm : nm < 12) (hw : i32 w) (hq : ∀ g, fr (tbA to) h g → zI g t = zI h t → teS g t to tx len B s st tm (nm + 1) (upI F nm x) (upI Wd nm w) V → Q 0 none g) : PR d m_Table_addName [.ref to, .int (iI w), .int (iI x)] h Q := by
  refine t_addName hs.2.2.2.2.1 (by omega) fun g f tb' => ?_
  have fA : fr (tbA to) h g := f.wk fun q z => by unfold tbA; omega
  have := hs.tb (nm' := nm + 1) (F' := upI F nm x) (Wd' := upI Wd nm w) (V' := V) fA tb' (fun i hi => (hs.2.2.2.2.2.1 i hi).keep f (by omega) (by omega)) (fun i hi => ?_)
  · exact hq g fA this.2 this.1
  · show i32 (if i = nm then w else Wd i)
    split
    · exact hw
    · exact hs.2.2.2.2.2.2.2.2.2 i hi
/-- a die's value with one FACE more -/
def afV (v : RowVal) (n : Int) : RowVal := (min v.1 n, max v.2.1 n, v.2.2.1 + 1, fun m => if m = n then v.2.2.2 n + 1 else v.2.2.2 m)
theorem gV_af {v : RowVal} {n : Int} (hv : gV v) (hn : -200 ≤ n ∧ n ≤ 200) (ht : v.2.2.1 + 1 ≤ 1000000000) : gV (afV v n) := by
  obtain ⟨lo, hi, tot, W⟩ := v
  obtain ⟨a1, a2, a3, a4, a5, a6, a7⟩ := hv
  dsimp only at a1 a2 a3 a4 a5 a6 a7 ht
  have nnn := a2 n
  have eq1 : ∀ m, (fun m => if m = n then W n + 1 else W m) m = W m + (if m = n then 1 else 0) := fun m => by
    show (if m = n then W n + 1 else W m) = _
    by_cases c : m = n
    · rw [if_pos c, if_pos c, c]
    · rw [if_neg c, if_neg c]
      omega
  refine ⟨⟨?_, ?_, ?_⟩, fun m => ?_, fun m hm => ?_, ⟨?_, ?_⟩, ?_, ?_, ht⟩
  · show -200 ≤ min lo n; omega
  · show min lo n ≤ max hi n; omega
  · show max hi n ≤ 200; omega
  · show 0 ≤ (if m = n then W n + 1 else W m)
    have := a2 m
    split <;> omega
  · change ¬ (min lo n ≤ m ∧ m ≤ max hi n) at hm
    show (if m = n then W n + 1 else W m) = 0
    rw [if_neg (by omega)]
    exact a3 m (by omega)
  · show 0 < (if min lo n = n then W n + 1 else W (min lo n))
    split
    · omega
    · rw [show min lo n = lo by omega]
      exact a4.1
  · show 0 < (if max hi n = n then W n + 1 else W (max hi n))
    split
    · omega
    · rw [show max hi n = hi by omega]
      exact a4.2
  · show tot + 1 = tS (fun m => if m = n then W n + 1 else W m)
    have e : tS (fun m => if m = n then W n + 1 else W m) = sm (fun m => W m + (if m = n then 1 else 0)) (-1000) 2000 := pS_congr fun m _ _ => eq1 m
    rw [e, sm_add]
    have := tS_one (n := n) ⟨by omega, by omega⟩
    rw [tS_e] at this
    rw [this, a5]
    rfl
  · show 1 ≤ tot + 1; omega
/-- FACES: good, FAULT's kind and place, the state, how many, the value -/
abbrev FRes : Type := Bool × Int × Int × R4 × Nat × RowVal
def fcS (B : Nat → Int) (len : Int) : Nat → Nat → RowVal → R4 → FRes
  | 0, n, v, s => (true, 0, 0, s, n, v)
  | k + 1, n, v, s => if s.2.1 ≠ 3 then (true, 0, 0, s, n, v) else if 60 < s.2.2.1 then (false, 2, s.2.2.2, s, n, v) else if 12 ≤ n then (false, 4, s.2.2.2, s, n, v) else fcS B len k (n + 1) (if n = 0 then nuV s.2.2.1 else afV v s.2.2.1) (nx B len s)
/-- a line: good, FAULT's kind and place, the state, FACES, the value -/
def diS (B : Nat → Int) (len : Int) (v0 : RowVal) (s : R4) : FRes :=
  let r := fcS B len 13 0 v0 s
  if r.1 = false then r else if r.2.2.2.2.1 = 0 ∨ ¬ sgP r.2.2.2.1 59 then (false, 1, r.2.2.2.1.2.2.2, r.2.2.2.1, r.2.2.2.2) else (true, 0, 0, nx B len r.2.2.2.1, r.2.2.2.2)
theorem up_up {V : Nat → RowVal} {k : Nat} {v w : RowVal} : upV (upV V k v) k w = upV V k w := by
  funext i
  show (if i = k then w else if i = k then v else V i) = if i = k then w else V i
  split <;> rfl
theorem up_same {V : Nat → RowVal} {k : Nat} : upV V k (V k) = V := by
  funext i
  show (if i = k then V k else V i) = V i
  split
  · rename_i c
    rw [c]
  · rfl
abbrev teB (t to : Nat) : Nat → Prop := fun q => teA t q ∨ tbA to q
theorem t_readFaces {D : Nat} {h : Hp} {t to tx : Nat} {len w : Int} {B : Nat → Int} {s : R4} {st : List RowVal} {tm : Bool} {nm : Nat} {F Wd : Nat → Int} {V : Nat → RowVal} {r : FRes} {Q : Nat → Option Value → Hp → Prop} (hs : teS h t to tx len B s st tm nm F Wd V) (hnm : nm < 12) (hw : i32 w) (hw4 : zI h t 4 = iI w) (hr : diS B len (V nm) s = r)
    (hT : r.1 = true → 1 ≤ r.2.2.2.2.1 ∧ r.2.2.2.2.1 ≤ 13 → gV r.2.2.2.2.2 → ∀ g, fr (teB t to) h g → zI g t = zI h t → teS g t to tx len B r.2.2.2.1 st tm (nm + 1) (upI F nm r.2.2.2.2.1) (upI Wd nm w) (upV V nm r.2.2.2.2.2) → Q 0 (some (.int (iI 1))) g)
    (hF : r.1 = false → ∀ g s' v', fr (teB t to) h g → teS g t to tx len B s' st tm nm F Wd (upV V nm v') → zI g t 5 = iI r.2.1 → zI g t 6 = iI r.2.2.1 → Q 0 (some (.int (iI 0))) g) : PR (D + 8) m_Teller_readFaces [.ref t] h Q := by
  have T := teF hs
  have tb := hs.2.2.2.2.1
  have rk := (hs.2.2.2.2.2.1 nm hnm).1.2.1
  unfold diS at hr
  dsimp only at hr
  generalize hR : fcS B len 13 0 (V nm) s = R at hr
  show PW (D + 8) 102 0 [some (.ref t), none, none, none] [] h Q
  refine vs_ok 5 ?_
  rw [show ((gRes 102).drop 0).take 5 = [.aload 0, .getfield 8022, .aload 0, .getfield 8022, .getfield 7030] from rfl]
  simp (disch := omega) only [vs_getfield, vs_aload0, vs_nil, gv_0, gv_1, gv_2, gv_3, pv_0, pv_1, va_rf_s, Nat.reduceDiv, Nat.reduceMod, Nat.reduceAdd, Nat.reduceMul, Int.reduceToNat, true_and, and_true, and_self, cP_eq, cP_ne, cP_lt, cP_ge, cP_gt, cP_le, eL_i, eL_l, eL_r, eL_n, Option.toList_none, Option.toList_some, List.nil_append, List.cons_append, kkI, llI, nnI, rrI, jjI, kkJ, llJ, nnJ, rrJ, iiJ, zIIs, zJJs, nEF, nET, and_false, false_and, jmin, jmax, catS_n, catS_i, catS_r, catS_l, Nat.reduceLeDiff, j1eq1, n21, jt0, jt1, Bool.false_eq_true, Classical.not_not, true_or, or_true, false_or, or_false, true_imp_iff, false_imp_iff, not_true_eq_false, not_false_eq_true, jif0, jif1, jifb, ltT, ltF, leT, leF, eqT, eqF, jlt, jle, jeq, jlt0, jle0, jeq0, jge0, jgt0, jinB, jnat, clt, cle, ceq, cgt, cge, lI_add, lI_sub, lI_mul, jadd, jsub, jmul, jneg, jtol, b010, b011, pv_2t, Int.toNat_natCast, Option.some.injEq, exists_eq_left', if_true, if_false, T]
  refine PW.iv rfl rfl rfl T.2.2.2.1 T.2.2.2.2.1 (le_b rfl) (le_b rfl) ?_
  refine t_rowN tb hnm ⟨rfl, ⟨rfl, decide_eq_true (Or.inl rk)⟩, ?_⟩
  have toB : ∀ {g g2 : Hp}, fr (teA t) g g2 → fr (teB t to) g g2 := fun f => f.wk fun q z => Or.inl z
  have toC : ∀ {g g2 : Hp}, fr (tbA to) g g2 → fr (teB t to) g g2 := fun f => f.wk fun q z => Or.inr z
  have p54 : ∀ (n : Nat) (v : RowVal) (s1 : R4) (g : Hp) (o3 : Option Value), n ≤ 13 → (n ≠ 0 → gV v) → teS g t to tx len B s1 st tm nm F Wd (upV V nm v) → fr (teB t to) h g → zI g t = zI h t → R = (true, 0, 0, s1, n, v) → PW (D + 8) 102 54 [some (.ref t), some (.ref (to + 4 + 2 * nm)), some (.int (iI n)), o3] [] g Q := fun n v s1 g o3 hn13 hv gs f e hRe => by
    have T := teF gs
    have kv := gs.2.2.1.v
    rw [hRe] at hr
    dsimp only at hr
    rw [if_neg (by decide)] at hr
    have bad : (n = 0 ∨ ¬ sgP s1 59) → PW (D + 8) 102 61 [some (.ref t), some (.ref (to + 4 + 2 * nm)), some (.int (iI n)), o3] [] g Q := fun c => by
      rw [if_pos c] at hr
      subst hr
      refine vs_ok 2 ?_
      rw [show ((gRes 102).drop 61).take 2 = [.aload 0, .iconst 1] from rfl]
      simp (disch := omega) only [vs_iconst, vs_aload0, vs_nil, gv_0, gv_1, gv_2, gv_3, pv_0, pv_1, va_rf_s, Nat.reduceDiv, Nat.reduceMod, Nat.reduceAdd, Nat.reduceMul, Int.reduceToNat, true_and, and_true, and_self, cP_eq, cP_ne, cP_lt, cP_ge, cP_gt, cP_le, eL_i, eL_l, eL_r, eL_n, Option.toList_none, Option.toList_some, List.nil_append, List.cons_append, kkI, llI, nnI, rrI, jjI, kkJ, llJ, nnJ, rrJ, iiJ, zIIs, zJJs, nEF, nET, and_false, false_and, jmin, jmax, catS_n, catS_i, catS_r, catS_l, Nat.reduceLeDiff, j1eq1, n21, jt0, jt1, Bool.false_eq_true, Classical.not_not, true_or, or_true, false_or, or_false, true_imp_iff, false_imp_iff, not_true_eq_false, not_false_eq_true, jif0, jif1, jifb, ltT, ltF, leT, leF, eqT, eqF, jlt, jle, jeq, jlt0, jle0, jeq0, jge0, jgt0, jinB, jnat, clt, cle, ceq, cgt, cge, lI_add, lI_sub, lI_mul, jadd, jsub, jmul, jneg, jtol, b010, b011, pv_2t, Int.toNat_natCast, Option.some.injEq, exists_eq_left', if_true, if_false]
      refine PW.iv rfl rfl rfl T.1.1 T.1.2.1 (le_b rfl) (le_b rfl) ?_
      refine t_failHere gs fun g2 f2 gs2 g5 g6 => ⟨rfl, ⟨f2.2.2.1, rfl⟩, ?_⟩
      refine vs_ok 1 ?_
      rw [show ((gRes 102).drop 64).take 1 = [.ireturn] from rfl]
      simp (disch := omega) only [vs_ireturn, vs_nil, gv_0, gv_1, gv_2, gv_3, pv_0, pv_1, va_rf_s, Nat.reduceDiv, Nat.reduceMod, Nat.reduceAdd, Nat.reduceMul, Int.reduceToNat, true_and, and_true, and_self, cP_eq, cP_ne, cP_lt, cP_ge, cP_gt, cP_le, eL_i, eL_l, eL_r, eL_n, Option.toList_none, Option.toList_some, List.nil_append, List.cons_append, kkI, llI, nnI, rrI, jjI, kkJ, llJ, nnJ, rrJ, iiJ, zIIs, zJJs, nEF, nET, and_false, false_and, jmin, jmax, catS_n, catS_i, catS_r, catS_l, Nat.reduceLeDiff, j1eq1, n21, jt0, jt1, Bool.false_eq_true, Classical.not_not, true_or, or_true, false_or, or_false, true_imp_iff, false_imp_iff, not_true_eq_false, not_false_eq_true, jif0, jif1, jifb, ltT, ltF, leT, leF, eqT, eqF, jlt, jle, jeq, jlt0, jle0, jeq0, jge0, jgt0, jinB, jnat, clt, cle, ceq, cgt, cge, lI_add, lI_sub, lI_mul, jadd, jsub, jmul, jneg, jtol, b010, b011, pv_2t, Int.toNat_natCast, Option.some.injEq, exists_eq_left', if_true, if_false, show gRc 102 = 2 from rfl]
      exact hF rfl g2 _ v (f.tr (toB f2)) gs2 g5 g6
    by_cases c0 : n = 0
    · refine vs_ok 2 ?_
      rw [show ((gRes 102).drop 54).take 2 = [.iload 2, .ifCond .eq 61] from rfl]
      simp (disch := omega) only [vs_ifCond, vs_iload2, vs_nil, gv_0, gv_1, gv_2, gv_3, pv_0, pv_1, va_rf_s, Nat.reduceDiv, Nat.reduceMod, Nat.reduceAdd, Nat.reduceMul, Int.reduceToNat, true_and, and_true, and_self, cP_eq, cP_ne, cP_lt, cP_ge, cP_gt, cP_le, eL_i, eL_l, eL_r, eL_n, Option.toList_none, Option.toList_some, List.nil_append, List.cons_append, kkI, llI, nnI, rrI, jjI, kkJ, llJ, nnJ, rrJ, iiJ, zIIs, zJJs, nEF, nET, and_false, false_and, jmin, jmax, catS_n, catS_i, catS_r, catS_l, Nat.reduceLeDiff, j1eq1, n21, jt0, jt1, Bool.false_eq_true, Classical.not_not, true_or, or_true, false_or, or_false, true_imp_iff, false_imp_iff, not_true_eq_false, not_false_eq_true, jif0, jif1, jifb, ltT, ltF, leT, leF, eqT, eqF, jlt, jle, jeq, jlt0, jle0, jeq0, jge0, jgt0, jinB, jnat, clt, cle, ceq, cgt, cge, lI_add, lI_sub, lI_mul, jadd, jsub, jmul, jneg, jtol, b010, b011, pv_2t, Int.toNat_natCast, Option.some.injEq, exists_eq_left', if_true, if_false]
      exact bad (Or.inl c0)
    · refine vs_ok 2 ?_
      rw [show ((gRes 102).drop 54).take 2 = [.iload 2, .ifCond .eq 61] from rfl]
      simp (disch := omega) only [vs_ifCond, vs_iload2, vs_nil, gv_0, gv_1, gv_2, gv_3, pv_0, pv_1, va_rf_s, Nat.reduceDiv, Nat.reduceMod, Nat.reduceAdd, Nat.reduceMul, Int.reduceToNat, true_and, and_true, and_self, cP_eq, cP_ne, cP_lt, cP_ge, cP_gt, cP_le, eL_i, eL_l, eL_r, eL_n, Option.toList_none, Option.toList_some, List.nil_append, List.cons_append, kkI, llI, nnI, rrI, jjI, kkJ, llJ, nnJ, rrJ, iiJ, zIIs, zJJs, nEF, nET, and_false, false_and, jmin, jmax, catS_n, catS_i, catS_r, catS_l, Nat.reduceLeDiff, j1eq1, n21, jt0, jt1, Bool.false_eq_true, Classical.not_not, true_or, or_true, false_or, or_false, true_imp_iff, false_imp_iff, not_true_eq_false, not_false_eq_true, jif0, jif1, jifb, ltT, ltF, leT, leF, eqT, eqF, jlt, jle, jeq, jlt0, jle0, jeq0, jge0, jgt0, jinB, jnat, clt, cle, ceq, cgt, cge, lI_add, lI_sub, lI_mul, jadd, jsub, jmul, jneg, jtol, b010, b011, pv_2t, Int.toNat_natCast, Option.some.injEq, exists_eq_left', if_true, if_false]
      refine vs_ok 3 ?_
      rw [show ((gRes 102).drop 56).take 3 = [.aload 0, .getfield 8002, .iconst 59] from rfl]
      simp (disch := omega) only [vs_iconst, vs_getfield, vs_aload0, vs_nil, gv_0, gv_1, gv_2, gv_3, pv_0, pv_1, va_rf_s, Nat.reduceDiv, Nat.reduceMod, Nat.reduceAdd, Nat.reduceMul, Int.reduceToNat, true_and, and_true, and_self, cP_eq, cP_ne, cP_lt, cP_ge, cP_gt, cP_le, eL_i, eL_l, eL_r, eL_n, Option.toList_none, Option.toList_some, List.nil_append, List.cons_append, kkI, llI, nnI, rrI, jjI, kkJ, llJ, nnJ, rrJ, iiJ, zIIs, zJJs, nEF, nET, and_false, false_and, jmin, jmax, catS_n, catS_i, catS_r, catS_l, Nat.reduceLeDiff, j1eq1, n21, jt0, jt1, Bool.false_eq_true, Classical.not_not, true_or, or_true, false_or, or_false, true_imp_iff, false_imp_iff, not_true_eq_false, not_false_eq_true, jif0, jif1, jifb, ltT, ltF, leT, leF, eqT, eqF, jlt, jle, jeq, jlt0, jle0, jeq0, jge0, jgt0, jinB, jnat, clt, cle, ceq, cgt, cge, lI_add, lI_sub, lI_mul, jadd, jsub, jmul, jneg, jtol, b010, b011, pv_2t, Int.toNat_natCast, Option.some.injEq, exists_eq_left', if_true, if_false, T]
      refine PW.iv rfl rfl rfl T.2.1.1 T.2.1.2.1 (le_b rfl) (le_b rfl) ?_
      refine t_isSign gs.2.1 kv.1 kv.2.1 (by constructor <;> omega) (fun z => ⟨rfl, ⟨rfl, rfl⟩, ?_⟩) (fun z => ⟨rfl, ⟨rfl, rfl⟩, ?_⟩)
      · rw [if_neg (by rintro (y | y); exact c0 y; exact y z)] at hr
        subst hr
        refine vs_ok 1 ?_
        rw [show ((gRes 102).drop 60).take 1 = [.ifCond .ne 65] from rfl]
        simp (disch := omega) only [vs_ifCond, vs_nil, gv_0, gv_1, gv_2, gv_3, pv_0, pv_1, va_rf_s, Nat.reduceDiv, Nat.reduceMod, Nat.reduceAdd, Nat.reduceMul, Int.reduceToNat, true_and, and_true, and_self, cP_eq, cP_ne, cP_lt, cP_ge, cP_gt, cP_le, eL_i, eL_l, eL_r, eL_n, Option.toList_none, Option.toList_some, List.nil_append, List.cons_append, kkI, llI, nnI, rrI, jjI, kkJ, llJ, nnJ, rrJ, iiJ, zIIs, zJJs, nEF, nET, and_false, false_and, jmin, jmax, catS_n, catS_i, catS_r, catS_l, Nat.reduceLeDiff, j1eq1, n21, jt0, jt1, Bool.false_eq_true, Classical.not_not, true_or, or_true, false_or, or_false, true_imp_iff, false_imp_iff, not_true_eq_false, not_false_eq_true, jif0, jif1, jifb, ltT, ltF, leT, leF, eqT, eqF, jlt, jle, jeq, jlt0, jle0, jeq0, jge0, jgt0, jinB, jnat, clt, cle, ceq, cgt, cge, lI_add, lI_sub, lI_mul, jadd, jsub, jmul, jneg, jtol, b010, b011, pv_2t, Int.toNat_natCast, Option.some.injEq, exists_eq_left', if_true, if_false, i1e0]
        refine vs_ok 5 ?_
        rw [show ((gRes 102).drop 65).take 5 = [.aload 0, .getfield 8022, .aload 0, .getfield 8040, .iload 2] from rfl]
        simp (disch := omega) only [vs_getfield, vs_aload0, vs_iload2, vs_nil, gv_0, gv_1, gv_2, gv_3, pv_0, pv_1, va_rf_s, Nat.reduceDiv, Nat.reduceMod, Nat.reduceAdd, Nat.reduceMul, Int.reduceToNat, true_and, and_true, and_self, cP_eq, cP_ne, cP_lt, cP_ge, cP_gt, cP_le, eL_i, eL_l, eL_r, eL_n, Option.toList_none, Option.toList_some, List.nil_append, List.cons_append, kkI, llI, nnI, rrI, jjI, kkJ, llJ, nnJ, rrJ, iiJ, zIIs, zJJs, nEF, nET, and_false, false_and, jmin, jmax, catS_n, catS_i, catS_r, catS_l, Nat.reduceLeDiff, j1eq1, n21, jt0, jt1, Bool.false_eq_true, Classical.not_not, true_or, or_true, false_or, or_false, true_imp_iff, false_imp_iff, not_true_eq_false, not_false_eq_true, jif0, jif1, jifb, ltT, ltF, leT, leF, eqT, eqF, jlt, jle, jeq, jlt0, jle0, jeq0, jge0, jgt0, jinB, jnat, clt, cle, ceq, cgt, cge, lI_add, lI_sub, lI_mul, jadd, jsub, jmul, jneg, jtol, b010, b011, pv_2t, Int.toNat_natCast, Option.some.injEq, exists_eq_left', if_true, if_false, T, e, hw4]
        refine PW.iv rfl rfl rfl T.2.2.2.1 T.2.2.2.2.1 (le_b rfl) (le_b rfl) ?_
        refine t_teAddName gs hnm hw fun g2 f2 e2 gs2 => ⟨rfl, ⟨f2.2.2.1, rfl⟩, ?_⟩
        have T2 := teF gs2
        refine vs_ok 2 ?_
        rw [show ((gRes 102).drop 71).take 2 = [.aload 0, .getfield 8002] from rfl]
        simp (disch := omega) only [vs_getfield, vs_aload0, vs_nil, gv_0, gv_1, gv_2, gv_3, pv_0, pv_1, va_rf_s, Nat.reduceDiv, Nat.reduceMod, Nat.reduceAdd, Nat.reduceMul, Int.reduceToNat, true_and, and_true, and_self, cP_eq, cP_ne, cP_lt, cP_ge, cP_gt, cP_le, eL_i, eL_l, eL_r, eL_n, Option.toList_none, Option.toList_some, List.nil_append, List.cons_append, kkI, llI, nnI, rrI, jjI, kkJ, llJ, nnJ, rrJ, iiJ, zIIs, zJJs, nEF, nET, and_false, false_and, jmin, jmax, catS_n, catS_i, catS_r, catS_l, Nat.reduceLeDiff, j1eq1, n21, jt0, jt1, Bool.false_eq_true, Classical.not_not, true_or, or_true, false_or, or_false, true_imp_iff, false_imp_iff, not_true_eq_false, not_false_eq_true, jif0, jif1, jifb, ltT, ltF, leT, leF, eqT, eqF, jlt, jle, jeq, jlt0, jle0, jeq0, jge0, jgt0, jinB, jnat, clt, cle, ceq, cgt, cge, lI_add, lI_sub, lI_mul, jadd, jsub, jmul, jneg, jtol, b010, b011, pv_2t, Int.toNat_natCast, Option.some.injEq, exists_eq_left', if_true, if_false, T2]
        refine PW.iv rfl rfl rfl T2.2.1.1 T2.2.1.2.1 (le_b rfl) (le_b rfl) ?_
        refine t_teAdv gs2 fun g3 f3 e3 gs3 => ⟨rfl, ⟨f3.2.2.1, rfl⟩, ?_⟩
        refine vs_ok 2 ?_
        rw [show ((gRes 102).drop 74).take 2 = [.iconst 1, .ireturn] from rfl]
        simp (disch := omega) only [vs_iconst, vs_ireturn, vs_nil, gv_0, gv_1, gv_2, gv_3, pv_0, pv_1, va_rf_s, Nat.reduceDiv, Nat.reduceMod, Nat.reduceAdd, Nat.reduceMul, Int.reduceToNat, true_and, and_true, and_self, cP_eq, cP_ne, cP_lt, cP_ge, cP_gt, cP_le, eL_i, eL_l, eL_r, eL_n, Option.toList_none, Option.toList_some, List.nil_append, List.cons_append, kkI, llI, nnI, rrI, jjI, kkJ, llJ, nnJ, rrJ, iiJ, zIIs, zJJs, nEF, nET, and_false, false_and, jmin, jmax, catS_n, catS_i, catS_r, catS_l, Nat.reduceLeDiff, j1eq1, n21, jt0, jt1, Bool.false_eq_true, Classical.not_not, true_or, or_true, false_or, or_false, true_imp_iff, false_imp_iff, not_true_eq_false, not_false_eq_true, jif0, jif1, jifb, ltT, ltF, leT, leF, eqT, eqF, jlt, jle, jeq, jlt0, jle0, jeq0, jge0, jgt0, jinB, jnat, clt, cle, ceq, cgt, cge, lI_add, lI_sub, lI_mul, jadd, jsub, jmul, jneg, jtol, b010, b011, pv_2t, Int.toNat_natCast, Option.some.injEq, exists_eq_left', if_true, if_false, show gRc 102 = 2 from rfl]
        exact hT rfl ⟨by show 1 ≤ n; omega, hn13⟩ (hv c0) g3 (f.tr ((toC f2).tr (toB f3))) (e3.trans (e2.trans e)) gs3
      · refine vs_ok 1 ?_
        rw [show ((gRes 102).drop 60).take 1 = [.ifCond .ne 65] from rfl]
        simp (disch := omega) only [vs_ifCond, vs_nil, gv_0, gv_1, gv_2, gv_3, pv_0, pv_1, va_rf_s, Nat.reduceDiv, Nat.reduceMod, Nat.reduceAdd, Nat.reduceMul, Int.reduceToNat, true_and, and_true, and_self, cP_eq, cP_ne, cP_lt, cP_ge, cP_gt, cP_le, eL_i, eL_l, eL_r, eL_n, Option.toList_none, Option.toList_some, List.nil_append, List.cons_append, kkI, llI, nnI, rrI, jjI, kkJ, llJ, nnJ, rrJ, iiJ, zIIs, zJJs, nEF, nET, and_false, false_and, jmin, jmax, catS_n, catS_i, catS_r, catS_l, Nat.reduceLeDiff, j1eq1, n21, jt0, jt1, Bool.false_eq_true, Classical.not_not, true_or, or_true, false_or, or_false, true_imp_iff, false_imp_iff, not_true_eq_false, not_false_eq_true, jif0, jif1, jifb, ltT, ltF, leT, leF, eqT, eqF, jlt, jle, jeq, jlt0, jle0, jeq0, jge0, jgt0, jinB, jnat, clt, cle, ceq, cgt, cge, lI_add, lI_sub, lI_mul, jadd, jsub, jmul, jneg, jtol, b010, b011, pv_2t, Int.toNat_natCast, Option.some.injEq, exists_eq_left', if_true, if_false]
        exact bad (Or.inr z)
  have lp : ∀ (k i n : Nat) (v : RowVal) (s1 : R4) (g : Hp), k + i = 13 → n = i → (n ≠ 0 → gV v ∧ v.2.2.1 = n) → teS g t to tx len B s1 st tm nm F Wd (upV V nm v) → fr (teB t to) h g → zI g t = zI h t → fcS B len k n v s1 = R → PW (D + 8) 102 11 [some (.ref t), some (.ref (to + 4 + 2 * nm)), some (.int (iI n)), some (.int (iI i))] [] g Q := by
    intro k
    induction k with
    | zero =>
      intro i n v s1 g hk hni hv gs f e hE
      refine vs_ok 3 ?_
      rw [show ((gRes 102).drop 11).take 3 = [.iload 3, .iconst 12, .if_icmp .gt 54] from rfl]
      simp (disch := omega) only [vs_iconst, vs_if_icmp, vs_iload3, vs_nil, gv_0, gv_1, gv_2, gv_3, pv_0, pv_1, va_rf_s, Nat.reduceDiv, Nat.reduceMod, Nat.reduceAdd, Nat.reduceMul, Int.reduceToNat, true_and, and_true, and_self, cP_eq, cP_ne, cP_lt, cP_ge, cP_gt, cP_le, eL_i, eL_l, eL_r, eL_n, Option.toList_none, Option.toList_some, List.nil_append, List.cons_append, kkI, llI, nnI, rrI, jjI, kkJ, llJ, nnJ, rrJ, iiJ, zIIs, zJJs, nEF, nET, and_false, false_and, jmin, jmax, catS_n, catS_i, catS_r, catS_l, Nat.reduceLeDiff, j1eq1, n21, jt0, jt1, Bool.false_eq_true, Classical.not_not, true_or, or_true, false_or, or_false, true_imp_iff, false_imp_iff, not_true_eq_false, not_false_eq_true, jif0, jif1, jifb, ltT, ltF, leT, leF, eqT, eqF, jlt, jle, jeq, jlt0, jle0, jeq0, jge0, jgt0, jinB, jnat, clt, cle, ceq, cgt, cge, lI_add, lI_sub, lI_mul, jadd, jsub, jmul, jneg, jtol, b010, b011, pv_2t, Int.toNat_natCast, Option.some.injEq, exists_eq_left', if_true, if_false]
      exact p54 n v s1 g _ (by omega) (fun z => (hv z).1) gs f e hE.symm
    | succ k ih =>
      intro i n v s1 g hk hni hv gs f e hE
      have T := teF gs
      obtain ⟨-, k4, k5, k6, k7⟩ := gs.2.2.1
      have ef : fcS B len (k + 1) n v s1 = if s1.2.1 ≠ 3 then (true, 0, 0, s1, n, v) else if 60 < s1.2.2.1 then (false, 2, s1.2.2.2, s1, n, v) else if 12 ≤ n then (false, 4, s1.2.2.2, s1, n, v) else fcS B len k (n + 1) (if n = 0 then nuV s1.2.2.1 else afV v s1.2.2.1) (nx B len s1) := rfl
      rw [ef] at hE
      refine vs_ok 3 ?_
      rw [show ((gRes 102).drop 11).take 3 = [.iload 3, .iconst 12, .if_icmp .gt 54] from rfl]
      simp (disch := omega) only [vs_iconst, vs_if_icmp, vs_iload3, vs_nil, gv_0, gv_1, gv_2, gv_3, pv_0, pv_1, va_rf_s, Nat.reduceDiv, Nat.reduceMod, Nat.reduceAdd, Nat.reduceMul, Int.reduceToNat, true_and, and_true, and_self, cP_eq, cP_ne, cP_lt, cP_ge, cP_gt, cP_le, eL_i, eL_l, eL_r, eL_n, Option.toList_none, Option.toList_some, List.nil_append, List.cons_append, kkI, llI, nnI, rrI, jjI, kkJ, llJ, nnJ, rrJ, iiJ, zIIs, zJJs, nEF, nET, and_false, false_and, jmin, jmax, catS_n, catS_i, catS_r, catS_l, Nat.reduceLeDiff, j1eq1, n21, jt0, jt1, Bool.false_eq_true, Classical.not_not, true_or, or_true, false_or, or_false, true_imp_iff, false_imp_iff, not_true_eq_false, not_false_eq_true, jif0, jif1, jifb, ltT, ltF, leT, leF, eqT, eqF, jlt, jle, jeq, jlt0, jle0, jeq0, jge0, jgt0, jinB, jnat, clt, cle, ceq, cgt, cge, lI_add, lI_sub, lI_mul, jadd, jsub, jmul, jneg, jtol, b010, b011, pv_2t, Int.toNat_natCast, Option.some.injEq, exists_eq_left', if_true, if_false]
      by_cases c3 : s1.2.1 = 3
      · rw [if_neg (fun z => z c3)] at hE
        refine vs_ok 5 ?_
        rw [show ((gRes 102).drop 14).take 5 = [.aload 0, .getfield 8002, .getfield 5030, .iconst 3, .if_icmp .ne 54] from rfl]
        simp (disch := omega) only [vs_iconst, vs_if_icmp, vs_getfield, vs_aload0, vs_nil, gv_0, gv_1, gv_2, gv_3, pv_0, pv_1, va_rf_s, Nat.reduceDiv, Nat.reduceMod, Nat.reduceAdd, Nat.reduceMul, Int.reduceToNat, true_and, and_true, and_self, cP_eq, cP_ne, cP_lt, cP_ge, cP_gt, cP_le, eL_i, eL_l, eL_r, eL_n, Option.toList_none, Option.toList_some, List.nil_append, List.cons_append, kkI, llI, nnI, rrI, jjI, kkJ, llJ, nnJ, rrJ, iiJ, zIIs, zJJs, nEF, nET, and_false, false_and, jmin, jmax, catS_n, catS_i, catS_r, catS_l, Nat.reduceLeDiff, j1eq1, n21, jt0, jt1, Bool.false_eq_true, Classical.not_not, true_or, or_true, false_or, or_false, true_imp_iff, false_imp_iff, not_true_eq_false, not_false_eq_true, jif0, jif1, jifb, ltT, ltF, leT, leF, eqT, eqF, jlt, jle, jeq, jlt0, jle0, jeq0, jge0, jgt0, jinB, jnat, clt, cle, ceq, cgt, cge, lI_add, lI_sub, lI_mul, jadd, jsub, jmul, jneg, jtol, b010, b011, pv_2t, Int.toNat_natCast, Option.some.injEq, exists_eq_left', if_true, if_false, T]
        by_cases c60 : 60 < s1.2.2.1
        · rw [if_pos c60] at hE
          rw [← hE] at hr
          dsimp only at hr
          rw [if_pos rfl] at hr
          subst hr
          refine vs_ok 5 ?_
          rw [show ((gRes 102).drop 19).take 5 = [.aload 0, .getfield 8002, .getfield 5040, .iconst 60, .if_icmp .le 28] from rfl]
          simp (disch := omega) only [vs_iconst, vs_if_icmp, vs_getfield, vs_aload0, vs_nil, gv_0, gv_1, gv_2, gv_3, pv_0, pv_1, va_rf_s, Nat.reduceDiv, Nat.reduceMod, Nat.reduceAdd, Nat.reduceMul, Int.reduceToNat, true_and, and_true, and_self, cP_eq, cP_ne, cP_lt, cP_ge, cP_gt, cP_le, eL_i, eL_l, eL_r, eL_n, Option.toList_none, Option.toList_some, List.nil_append, List.cons_append, kkI, llI, nnI, rrI, jjI, kkJ, llJ, nnJ, rrJ, iiJ, zIIs, zJJs, nEF, nET, and_false, false_and, jmin, jmax, catS_n, catS_i, catS_r, catS_l, Nat.reduceLeDiff, j1eq1, n21, jt0, jt1, Bool.false_eq_true, Classical.not_not, true_or, or_true, false_or, or_false, true_imp_iff, false_imp_iff, not_true_eq_false, not_false_eq_true, jif0, jif1, jifb, ltT, ltF, leT, leF, eqT, eqF, jlt, jle, jeq, jlt0, jle0, jeq0, jge0, jgt0, jinB, jnat, clt, cle, ceq, cgt, cge, lI_add, lI_sub, lI_mul, jadd, jsub, jmul, jneg, jtol, b010, b011, pv_2t, Int.toNat_natCast, Option.some.injEq, exists_eq_left', if_true, if_false, T]
          refine vs_ok 2 ?_
          rw [show ((gRes 102).drop 24).take 2 = [.aload 0, .iconst 2] from rfl]
          simp (disch := omega) only [vs_iconst, vs_aload0, vs_nil, gv_0, gv_1, gv_2, gv_3, pv_0, pv_1, va_rf_s, Nat.reduceDiv, Nat.reduceMod, Nat.reduceAdd, Nat.reduceMul, Int.reduceToNat, true_and, and_true, and_self, cP_eq, cP_ne, cP_lt, cP_ge, cP_gt, cP_le, eL_i, eL_l, eL_r, eL_n, Option.toList_none, Option.toList_some, List.nil_append, List.cons_append, kkI, llI, nnI, rrI, jjI, kkJ, llJ, nnJ, rrJ, iiJ, zIIs, zJJs, nEF, nET, and_false, false_and, jmin, jmax, catS_n, catS_i, catS_r, catS_l, Nat.reduceLeDiff, j1eq1, n21, jt0, jt1, Bool.false_eq_true, Classical.not_not, true_or, or_true, false_or, or_false, true_imp_iff, false_imp_iff, not_true_eq_false, not_false_eq_true, jif0, jif1, jifb, ltT, ltF, leT, leF, eqT, eqF, jlt, jle, jeq, jlt0, jle0, jeq0, jge0, jgt0, jinB, jnat, clt, cle, ceq, cgt, cge, lI_add, lI_sub, lI_mul, jadd, jsub, jmul, jneg, jtol, b010, b011, pv_2t, Int.toNat_natCast, Option.some.injEq, exists_eq_left', if_true, if_false]
          refine PW.iv rfl rfl rfl T.1.1 T.1.2.1 (le_b rfl) (le_b rfl) ?_
          refine t_failHere gs fun g2 f2 gs2 g5 g6 => ⟨rfl, ⟨f2.2.2.1, rfl⟩, ?_⟩
          refine vs_ok 1 ?_
          rw [show ((gRes 102).drop 27).take 1 = [.ireturn] from rfl]
          simp (disch := omega) only [vs_ireturn, vs_nil, gv_0, gv_1, gv_2, gv_3, pv_0, pv_1, va_rf_s, Nat.reduceDiv, Nat.reduceMod, Nat.reduceAdd, Nat.reduceMul, Int.reduceToNat, true_and, and_true, and_self, cP_eq, cP_ne, cP_lt, cP_ge, cP_gt, cP_le, eL_i, eL_l, eL_r, eL_n, Option.toList_none, Option.toList_some, List.nil_append, List.cons_append, kkI, llI, nnI, rrI, jjI, kkJ, llJ, nnJ, rrJ, iiJ, zIIs, zJJs, nEF, nET, and_false, false_and, jmin, jmax, catS_n, catS_i, catS_r, catS_l, Nat.reduceLeDiff, j1eq1, n21, jt0, jt1, Bool.false_eq_true, Classical.not_not, true_or, or_true, false_or, or_false, true_imp_iff, false_imp_iff, not_true_eq_false, not_false_eq_true, jif0, jif1, jifb, ltT, ltF, leT, leF, eqT, eqF, jlt, jle, jeq, jlt0, jle0, jeq0, jge0, jgt0, jinB, jnat, clt, cle, ceq, cgt, cge, lI_add, lI_sub, lI_mul, jadd, jsub, jmul, jneg, jtol, b010, b011, pv_2t, Int.toNat_natCast, Option.some.injEq, exists_eq_left', if_true, if_false, show gRc 102 = 2 from rfl]
          exact hF rfl g2 _ v (f.tr (toB f2)) gs2 g5 g6
        · rw [if_neg c60] at hE
          refine vs_ok 5 ?_
          rw [show ((gRes 102).drop 19).take 5 = [.aload 0, .getfield 8002, .getfield 5040, .iconst 60, .if_icmp .le 28] from rfl]
          simp (disch := omega) only [vs_iconst, vs_if_icmp, vs_getfield, vs_aload0, vs_nil, gv_0, gv_1, gv_2, gv_3, pv_0, pv_1, va_rf_s, Nat.reduceDiv, Nat.reduceMod, Nat.reduceAdd, Nat.reduceMul, Int.reduceToNat, true_and, and_true, and_self, cP_eq, cP_ne, cP_lt, cP_ge, cP_gt, cP_le, eL_i, eL_l, eL_r, eL_n, Option.toList_none, Option.toList_some, List.nil_append, List.cons_append, kkI, llI, nnI, rrI, jjI, kkJ, llJ, nnJ, rrJ, iiJ, zIIs, zJJs, nEF, nET, and_false, false_and, jmin, jmax, catS_n, catS_i, catS_r, catS_l, Nat.reduceLeDiff, j1eq1, n21, jt0, jt1, Bool.false_eq_true, Classical.not_not, true_or, or_true, false_or, or_false, true_imp_iff, false_imp_iff, not_true_eq_false, not_false_eq_true, jif0, jif1, jifb, ltT, ltF, leT, leF, eqT, eqF, jlt, jle, jeq, jlt0, jle0, jeq0, jge0, jgt0, jinB, jnat, clt, cle, ceq, cgt, cge, lI_add, lI_sub, lI_mul, jadd, jsub, jmul, jneg, jtol, b010, b011, pv_2t, Int.toNat_natCast, Option.some.injEq, exists_eq_left', if_true, if_false, T]
          by_cases c12 : 12 ≤ n
          · rw [if_pos c12] at hE
            rw [← hE] at hr
            dsimp only at hr
            rw [if_pos rfl] at hr
            subst hr
            refine vs_ok 3 ?_
            rw [show ((gRes 102).drop 28).take 3 = [.iload 2, .iconst 12, .if_icmp .lt 35] from rfl]
            simp (disch := omega) only [vs_iconst, vs_if_icmp, vs_iload2, vs_nil, gv_0, gv_1, gv_2, gv_3, pv_0, pv_1, va_rf_s, Nat.reduceDiv, Nat.reduceMod, Nat.reduceAdd, Nat.reduceMul, Int.reduceToNat, true_and, and_true, and_self, cP_eq, cP_ne, cP_lt, cP_ge, cP_gt, cP_le, eL_i, eL_l, eL_r, eL_n, Option.toList_none, Option.toList_some, List.nil_append, List.cons_append, kkI, llI, nnI, rrI, jjI, kkJ, llJ, nnJ, rrJ, iiJ, zIIs, zJJs, nEF, nET, and_false, false_and, jmin, jmax, catS_n, catS_i, catS_r, catS_l, Nat.reduceLeDiff, j1eq1, n21, jt0, jt1, Bool.false_eq_true, Classical.not_not, true_or, or_true, false_or, or_false, true_imp_iff, false_imp_iff, not_true_eq_false, not_false_eq_true, jif0, jif1, jifb, ltT, ltF, leT, leF, eqT, eqF, jlt, jle, jeq, jlt0, jle0, jeq0, jge0, jgt0, jinB, jnat, clt, cle, ceq, cgt, cge, lI_add, lI_sub, lI_mul, jadd, jsub, jmul, jneg, jtol, b010, b011, pv_2t, Int.toNat_natCast, Option.some.injEq, exists_eq_left', if_true, if_false]
            refine vs_ok 2 ?_
            rw [show ((gRes 102).drop 31).take 2 = [.aload 0, .iconst 4] from rfl]
            simp (disch := omega) only [vs_iconst, vs_aload0, vs_nil, gv_0, gv_1, gv_2, gv_3, pv_0, pv_1, va_rf_s, Nat.reduceDiv, Nat.reduceMod, Nat.reduceAdd, Nat.reduceMul, Int.reduceToNat, true_and, and_true, and_self, cP_eq, cP_ne, cP_lt, cP_ge, cP_gt, cP_le, eL_i, eL_l, eL_r, eL_n, Option.toList_none, Option.toList_some, List.nil_append, List.cons_append, kkI, llI, nnI, rrI, jjI, kkJ, llJ, nnJ, rrJ, iiJ, zIIs, zJJs, nEF, nET, and_false, false_and, jmin, jmax, catS_n, catS_i, catS_r, catS_l, Nat.reduceLeDiff, j1eq1, n21, jt0, jt1, Bool.false_eq_true, Classical.not_not, true_or, or_true, false_or, or_false, true_imp_iff, false_imp_iff, not_true_eq_false, not_false_eq_true, jif0, jif1, jifb, ltT, ltF, leT, leF, eqT, eqF, jlt, jle, jeq, jlt0, jle0, jeq0, jge0, jgt0, jinB, jnat, clt, cle, ceq, cgt, cge, lI_add, lI_sub, lI_mul, jadd, jsub, jmul, jneg, jtol, b010, b011, pv_2t, Int.toNat_natCast, Option.some.injEq, exists_eq_left', if_true, if_false]
            refine PW.iv rfl rfl rfl T.1.1 T.1.2.1 (le_b rfl) (le_b rfl) ?_
            refine t_failHere gs fun g2 f2 gs2 g5 g6 => ⟨rfl, ⟨f2.2.2.1, rfl⟩, ?_⟩
            refine vs_ok 1 ?_
            rw [show ((gRes 102).drop 34).take 1 = [.ireturn] from rfl]
            simp (disch := omega) only [vs_ireturn, vs_nil, gv_0, gv_1, gv_2, gv_3, pv_0, pv_1, va_rf_s, Nat.reduceDiv, Nat.reduceMod, Nat.reduceAdd, Nat.reduceMul, Int.reduceToNat, true_and, and_true, and_self, cP_eq, cP_ne, cP_lt, cP_ge, cP_gt, cP_le, eL_i, eL_l, eL_r, eL_n, Option.toList_none, Option.toList_some, List.nil_append, List.cons_append, kkI, llI, nnI, rrI, jjI, kkJ, llJ, nnJ, rrJ, iiJ, zIIs, zJJs, nEF, nET, and_false, false_and, jmin, jmax, catS_n, catS_i, catS_r, catS_l, Nat.reduceLeDiff, j1eq1, n21, jt0, jt1, Bool.false_eq_true, Classical.not_not, true_or, or_true, false_or, or_false, true_imp_iff, false_imp_iff, not_true_eq_false, not_false_eq_true, jif0, jif1, jifb, ltT, ltF, leT, leF, eqT, eqF, jlt, jle, jeq, jlt0, jle0, jeq0, jge0, jgt0, jinB, jnat, clt, cle, ceq, cgt, cge, lI_add, lI_sub, lI_mul, jadd, jsub, jmul, jneg, jtol, b010, b011, pv_2t, Int.toNat_natCast, Option.some.injEq, exists_eq_left', if_true, if_false, show gRc 102 = 2 from rfl]
            exact hF rfl g2 _ v (f.tr (toB f2)) gs2 g5 g6
          · rw [if_neg c12] at hE
            have rw1 := gs.2.2.2.2.2.1 nm hnm
            have eV : upV V nm v nm = v := if_pos rfl
            rw [eV] at rw1
            have p48 : ∀ (g2 : Hp) (v2 : RowVal), v2 = (if n = 0 then nuV s1.2.2.1 else afV v s1.2.2.1) → (gV v2 ∧ v2.2.2.1 = ((n + 1 : Nat) : Int)) → teS g2 t to tx len B s1 st tm nm F Wd (upV V nm v2) → fr (teB t to) h g2 → zI g2 t = zI h t → PW (D + 8) 102 48 [some (.ref t), some (.ref (to + 4 + 2 * nm)), some (.int (iI n)), some (.int (iI i))] [] g2 Q := fun g2 v2 hv2 hg2 gs2 f2 e2 => by
              have T2 := teF gs2
              refine vs_ok 3 ?_
              rw [show ((gRes 102).drop 48).take 3 = [.iinc 2 1, .aload 0, .getfield 8002] from rfl]
              simp (disch := omega) only [vs_getfield, vs_aload0, vs_iinc2n, vs_iinc2i, vs_iinc2r, vs_iinc2l, vs_nil, gv_0, gv_1, gv_2, gv_3, pv_0, pv_1, va_rf_s, Nat.reduceDiv, Nat.reduceMod, Nat.reduceAdd, Nat.reduceMul, Int.reduceToNat, true_and, and_true, and_self, cP_eq, cP_ne, cP_lt, cP_ge, cP_gt, cP_le, eL_i, eL_l, eL_r, eL_n, Option.toList_none, Option.toList_some, List.nil_append, List.cons_append, kkI, llI, nnI, rrI, jjI, kkJ, llJ, nnJ, rrJ, iiJ, zIIs, zJJs, nEF, nET, and_false, false_and, jmin, jmax, catS_n, catS_i, catS_r, catS_l, Nat.reduceLeDiff, j1eq1, n21, jt0, jt1, Bool.false_eq_true, Classical.not_not, true_or, or_true, false_or, or_false, true_imp_iff, false_imp_iff, not_true_eq_false, not_false_eq_true, jif0, jif1, jifb, ltT, ltF, leT, leF, eqT, eqF, jlt, jle, jeq, jlt0, jle0, jeq0, jge0, jgt0, jinB, jnat, clt, cle, ceq, cgt, cge, lI_add, lI_sub, lI_mul, jadd, jsub, jmul, jneg, jtol, b010, b011, pv_2t, Int.toNat_natCast, Option.some.injEq, exists_eq_left', if_true, if_false, T2]
              refine PW.iv rfl rfl rfl T2.2.1.1 T2.2.1.2.1 (le_b rfl) (le_b rfl) ?_
              refine t_teAdv gs2 fun g3 f3 e3 gs3 => ⟨rfl, ⟨f3.2.2.1, rfl⟩, ?_⟩
              refine vs_ok 2 ?_
              rw [show ((gRes 102).drop 52).take 2 = [.iinc 3 1, .goto 11] from rfl]
              simp (disch := omega) only [vs_goto, vs_iinc3n, vs_iinc3i, vs_iinc3r, vs_iinc3l, vs_nil, gv_0, gv_1, gv_2, gv_3, pv_0, pv_1, va_rf_s, Nat.reduceDiv, Nat.reduceMod, Nat.reduceAdd, Nat.reduceMul, Int.reduceToNat, true_and, and_true, and_self, cP_eq, cP_ne, cP_lt, cP_ge, cP_gt, cP_le, eL_i, eL_l, eL_r, eL_n, Option.toList_none, Option.toList_some, List.nil_append, List.cons_append, kkI, llI, nnI, rrI, jjI, kkJ, llJ, nnJ, rrJ, iiJ, zIIs, zJJs, nEF, nET, and_false, false_and, jmin, jmax, catS_n, catS_i, catS_r, catS_l, Nat.reduceLeDiff, j1eq1, n21, jt0, jt1, Bool.false_eq_true, Classical.not_not, true_or, or_true, false_or, or_false, true_imp_iff, false_imp_iff, not_true_eq_false, not_false_eq_true, jif0, jif1, jifb, ltT, ltF, leT, leF, eqT, eqF, jlt, jle, jeq, jlt0, jle0, jeq0, jge0, jgt0, jinB, jnat, clt, cle, ceq, cgt, cge, lI_add, lI_sub, lI_mul, jadd, jsub, jmul, jneg, jtol, b010, b011, pv_2t, Int.toNat_natCast, Option.some.injEq, exists_eq_left', if_true, if_false]
              exact ih (i + 1) (n + 1) v2 _ g3 (by omega) (by omega) (fun _ => hg2) gs3 (f2.tr (toB f3)) (e3.trans e2) (by rw [hv2]; exact hE)
            by_cases c0 : n = 0
            · refine vs_ok 3 ?_
              rw [show ((gRes 102).drop 28).take 3 = [.iload 2, .iconst 12, .if_icmp .lt 35] from rfl]
              simp (disch := omega) only [vs_iconst, vs_if_icmp, vs_iload2, vs_nil, gv_0, gv_1, gv_2, gv_3, pv_0, pv_1, va_rf_s, Nat.reduceDiv, Nat.reduceMod, Nat.reduceAdd, Nat.reduceMul, Int.reduceToNat, true_and, and_true, and_self, cP_eq, cP_ne, cP_lt, cP_ge, cP_gt, cP_le, eL_i, eL_l, eL_r, eL_n, Option.toList_none, Option.toList_some, List.nil_append, List.cons_append, kkI, llI, nnI, rrI, jjI, kkJ, llJ, nnJ, rrJ, iiJ, zIIs, zJJs, nEF, nET, and_false, false_and, jmin, jmax, catS_n, catS_i, catS_r, catS_l, Nat.reduceLeDiff, j1eq1, n21, jt0, jt1, Bool.false_eq_true, Classical.not_not, true_or, or_true, false_or, or_false, true_imp_iff, false_imp_iff, not_true_eq_false, not_false_eq_true, jif0, jif1, jifb, ltT, ltF, leT, leF, eqT, eqF, jlt, jle, jeq, jlt0, jle0, jeq0, jge0, jgt0, jinB, jnat, clt, cle, ceq, cgt, cge, lI_add, lI_sub, lI_mul, jadd, jsub, jmul, jneg, jtol, b010, b011, pv_2t, Int.toNat_natCast, Option.some.injEq, exists_eq_left', if_true, if_false]
              refine vs_ok 2 ?_
              rw [show ((gRes 102).drop 35).take 2 = [.iload 2, .ifCond .ne 43] from rfl]
              simp (disch := omega) only [vs_ifCond, vs_iload2, vs_nil, gv_0, gv_1, gv_2, gv_3, pv_0, pv_1, va_rf_s, Nat.reduceDiv, Nat.reduceMod, Nat.reduceAdd, Nat.reduceMul, Int.reduceToNat, true_and, and_true, and_self, cP_eq, cP_ne, cP_lt, cP_ge, cP_gt, cP_le, eL_i, eL_l, eL_r, eL_n, Option.toList_none, Option.toList_some, List.nil_append, List.cons_append, kkI, llI, nnI, rrI, jjI, kkJ, llJ, nnJ, rrJ, iiJ, zIIs, zJJs, nEF, nET, and_false, false_and, jmin, jmax, catS_n, catS_i, catS_r, catS_l, Nat.reduceLeDiff, j1eq1, n21, jt0, jt1, Bool.false_eq_true, Classical.not_not, true_or, or_true, false_or, or_false, true_imp_iff, false_imp_iff, not_true_eq_false, not_false_eq_true, jif0, jif1, jifb, ltT, ltF, leT, leF, eqT, eqF, jlt, jle, jeq, jlt0, jle0, jeq0, jge0, jgt0, jinB, jnat, clt, cle, ceq, cgt, cge, lI_add, lI_sub, lI_mul, jadd, jsub, jmul, jneg, jtol, b010, b011, pv_2t, Int.toNat_natCast, Option.some.injEq, exists_eq_left', if_true, if_false]
              refine vs_ok 4 ?_
              rw [show ((gRes 102).drop 37).take 4 = [.aload 1, .aload 0, .getfield 8002, .getfield 5040] from rfl]
              simp (disch := omega) only [vs_getfield, vs_aload0, vs_aload1, vs_nil, gv_0, gv_1, gv_2, gv_3, pv_0, pv_1, va_rf_s, Nat.reduceDiv, Nat.reduceMod, Nat.reduceAdd, Nat.reduceMul, Int.reduceToNat, true_and, and_true, and_self, cP_eq, cP_ne, cP_lt, cP_ge, cP_gt, cP_le, eL_i, eL_l, eL_r, eL_n, Option.toList_none, Option.toList_some, List.nil_append, List.cons_append, kkI, llI, nnI, rrI, jjI, kkJ, llJ, nnJ, rrJ, iiJ, zIIs, zJJs, nEF, nET, and_false, false_and, jmin, jmax, catS_n, catS_i, catS_r, catS_l, Nat.reduceLeDiff, j1eq1, n21, jt0, jt1, Bool.false_eq_true, Classical.not_not, true_or, or_true, false_or, or_false, true_imp_iff, false_imp_iff, not_true_eq_false, not_false_eq_true, jif0, jif1, jifb, ltT, ltF, leT, leF, eqT, eqF, jlt, jle, jeq, jlt0, jle0, jeq0, jge0, jgt0, jinB, jnat, clt, cle, ceq, cgt, cge, lI_add, lI_sub, lI_mul, jadd, jsub, jmul, jneg, jtol, b010, b011, pv_2t, Int.toNat_natCast, Option.some.injEq, exists_eq_left', if_true, if_false, T]
              refine PW.iv rfl rfl rfl rw1.1.1 rw1.1.2.1 (le_b rfl) (le_b rfl) ?_
              refine t_takeNumber rw1 ⟨by omega, by omega⟩ fun g2 f2 v2 => ⟨rfl, ⟨f2.2.2.1, rfl⟩, ?_⟩
              obtain ⟨y1, y2, y3⟩ := gs.row hnm f2 (v := nuV s1.2.2.1) v2
              rw [up_up] at y1
              refine vs_ok 1 ?_
              rw [show ((gRes 102).drop 42).take 1 = [.goto 48] from rfl]
              simp (disch := omega) only [vs_goto, vs_nil, gv_0, gv_1, gv_2, gv_3, pv_0, pv_1, va_rf_s, Nat.reduceDiv, Nat.reduceMod, Nat.reduceAdd, Nat.reduceMul, Int.reduceToNat, true_and, and_true, and_self, cP_eq, cP_ne, cP_lt, cP_ge, cP_gt, cP_le, eL_i, eL_l, eL_r, eL_n, Option.toList_none, Option.toList_some, List.nil_append, List.cons_append, kkI, llI, nnI, rrI, jjI, kkJ, llJ, nnJ, rrJ, iiJ, zIIs, zJJs, nEF, nET, and_false, false_and, jmin, jmax, catS_n, catS_i, catS_r, catS_l, Nat.reduceLeDiff, j1eq1, n21, jt0, jt1, Bool.false_eq_true, Classical.not_not, true_or, or_true, false_or, or_false, true_imp_iff, false_imp_iff, not_true_eq_false, not_false_eq_true, jif0, jif1, jifb, ltT, ltF, leT, leF, eqT, eqF, jlt, jle, jeq, jlt0, jle0, jeq0, jge0, jgt0, jinB, jnat, clt, cle, ceq, cgt, cge, lI_add, lI_sub, lI_mul, jadd, jsub, jmul, jneg, jtol, b010, b011, pv_2t, Int.toNat_natCast, Option.some.injEq, exists_eq_left', if_true, if_false]
              exact p48 g2 _ (by rw [if_pos c0]) ⟨gV_nu ⟨by omega, by omega⟩, by rw [c0]; rfl⟩ y1 (f.tr (toC y3)) (y2.trans e)
            · obtain ⟨h1, h2⟩ := hv c0
              refine vs_ok 3 ?_
              rw [show ((gRes 102).drop 28).take 3 = [.iload 2, .iconst 12, .if_icmp .lt 35] from rfl]
              simp (disch := omega) only [vs_iconst, vs_if_icmp, vs_iload2, vs_nil, gv_0, gv_1, gv_2, gv_3, pv_0, pv_1, va_rf_s, Nat.reduceDiv, Nat.reduceMod, Nat.reduceAdd, Nat.reduceMul, Int.reduceToNat, true_and, and_true, and_self, cP_eq, cP_ne, cP_lt, cP_ge, cP_gt, cP_le, eL_i, eL_l, eL_r, eL_n, Option.toList_none, Option.toList_some, List.nil_append, List.cons_append, kkI, llI, nnI, rrI, jjI, kkJ, llJ, nnJ, rrJ, iiJ, zIIs, zJJs, nEF, nET, and_false, false_and, jmin, jmax, catS_n, catS_i, catS_r, catS_l, Nat.reduceLeDiff, j1eq1, n21, jt0, jt1, Bool.false_eq_true, Classical.not_not, true_or, or_true, false_or, or_false, true_imp_iff, false_imp_iff, not_true_eq_false, not_false_eq_true, jif0, jif1, jifb, ltT, ltF, leT, leF, eqT, eqF, jlt, jle, jeq, jlt0, jle0, jeq0, jge0, jgt0, jinB, jnat, clt, cle, ceq, cgt, cge, lI_add, lI_sub, lI_mul, jadd, jsub, jmul, jneg, jtol, b010, b011, pv_2t, Int.toNat_natCast, Option.some.injEq, exists_eq_left', if_true, if_false]
              refine vs_ok 2 ?_
              rw [show ((gRes 102).drop 35).take 2 = [.iload 2, .ifCond .ne 43] from rfl]
              simp (disch := omega) only [vs_ifCond, vs_iload2, vs_nil, gv_0, gv_1, gv_2, gv_3, pv_0, pv_1, va_rf_s, Nat.reduceDiv, Nat.reduceMod, Nat.reduceAdd, Nat.reduceMul, Int.reduceToNat, true_and, and_true, and_self, cP_eq, cP_ne, cP_lt, cP_ge, cP_gt, cP_le, eL_i, eL_l, eL_r, eL_n, Option.toList_none, Option.toList_some, List.nil_append, List.cons_append, kkI, llI, nnI, rrI, jjI, kkJ, llJ, nnJ, rrJ, iiJ, zIIs, zJJs, nEF, nET, and_false, false_and, jmin, jmax, catS_n, catS_i, catS_r, catS_l, Nat.reduceLeDiff, j1eq1, n21, jt0, jt1, Bool.false_eq_true, Classical.not_not, true_or, or_true, false_or, or_false, true_imp_iff, false_imp_iff, not_true_eq_false, not_false_eq_true, jif0, jif1, jifb, ltT, ltF, leT, leF, eqT, eqF, jlt, jle, jeq, jlt0, jle0, jeq0, jge0, jgt0, jinB, jnat, clt, cle, ceq, cgt, cge, lI_add, lI_sub, lI_mul, jadd, jsub, jmul, jneg, jtol, b010, b011, pv_2t, Int.toNat_natCast, Option.some.injEq, exists_eq_left', if_true, if_false]
              refine vs_ok 4 ?_
              rw [show ((gRes 102).drop 43).take 4 = [.aload 1, .aload 0, .getfield 8002, .getfield 5040] from rfl]
              simp (disch := omega) only [vs_getfield, vs_aload0, vs_aload1, vs_nil, gv_0, gv_1, gv_2, gv_3, pv_0, pv_1, va_rf_s, Nat.reduceDiv, Nat.reduceMod, Nat.reduceAdd, Nat.reduceMul, Int.reduceToNat, true_and, and_true, and_self, cP_eq, cP_ne, cP_lt, cP_ge, cP_gt, cP_le, eL_i, eL_l, eL_r, eL_n, Option.toList_none, Option.toList_some, List.nil_append, List.cons_append, kkI, llI, nnI, rrI, jjI, kkJ, llJ, nnJ, rrJ, iiJ, zIIs, zJJs, nEF, nET, and_false, false_and, jmin, jmax, catS_n, catS_i, catS_r, catS_l, Nat.reduceLeDiff, j1eq1, n21, jt0, jt1, Bool.false_eq_true, Classical.not_not, true_or, or_true, false_or, or_false, true_imp_iff, false_imp_iff, not_true_eq_false, not_false_eq_true, jif0, jif1, jifb, ltT, ltF, leT, leF, eqT, eqF, jlt, jle, jeq, jlt0, jle0, jeq0, jge0, jgt0, jinB, jnat, clt, cle, ceq, cgt, cge, lI_add, lI_sub, lI_mul, jadd, jsub, jmul, jneg, jtol, b010, b011, pv_2t, Int.toNat_natCast, Option.some.injEq, exists_eq_left', if_true, if_false, T]
              refine PW.iv rfl rfl rfl rw1.1.1 rw1.1.2.1 (le_b rfl) (le_b rfl) ?_
              refine t_addFace rw1 ⟨by omega, by omega⟩ fun g2 f2 v2 => ⟨rfl, ⟨f2.2.2.1, rfl⟩, ?_⟩
              obtain ⟨y1, y2, y3⟩ := gs.row hnm f2 (v := afV v s1.2.2.1) v2
              rw [up_up] at y1
              refine p48 g2 _ (by rw [if_neg c0]) ⟨gV_af h1 ⟨by omega, by omega⟩ (by omega), ?_⟩ y1 (f.tr (toC y3)) (y2.trans e)
              show v.2.2.1 + 1 = _
              omega
      · rw [if_pos c3] at hE
        refine vs_ok 5 ?_
        rw [show ((gRes 102).drop 14).take 5 = [.aload 0, .getfield 8002, .getfield 5030, .iconst 3, .if_icmp .ne 54] from rfl]
        simp (disch := omega) only [vs_iconst, vs_if_icmp, vs_getfield, vs_aload0, vs_nil, gv_0, gv_1, gv_2, gv_3, pv_0, pv_1, va_rf_s, Nat.reduceDiv, Nat.reduceMod, Nat.reduceAdd, Nat.reduceMul, Int.reduceToNat, true_and, and_true, and_self, cP_eq, cP_ne, cP_lt, cP_ge, cP_gt, cP_le, eL_i, eL_l, eL_r, eL_n, Option.toList_none, Option.toList_some, List.nil_append, List.cons_append, kkI, llI, nnI, rrI, jjI, kkJ, llJ, nnJ, rrJ, iiJ, zIIs, zJJs, nEF, nET, and_false, false_and, jmin, jmax, catS_n, catS_i, catS_r, catS_l, Nat.reduceLeDiff, j1eq1, n21, jt0, jt1, Bool.false_eq_true, Classical.not_not, true_or, or_true, false_or, or_false, true_imp_iff, false_imp_iff, not_true_eq_false, not_false_eq_true, jif0, jif1, jifb, ltT, ltF, leT, leF, eqT, eqF, jlt, jle, jeq, jlt0, jle0, jeq0, jge0, jgt0, jinB, jnat, clt, cle, ceq, cgt, cge, lI_add, lI_sub, lI_mul, jadd, jsub, jmul, jneg, jtol, b010, b011, pv_2t, Int.toNat_natCast, Option.some.injEq, exists_eq_left', if_true, if_false, T]
        exact p54 n v s1 g _ (by omega) (fun z => (hv z).1) gs f e hE.symm
  refine vs_ok 5 ?_
  rw [show ((gRes 102).drop 6).take 5 = [.astore 1, .iconst 0, .istore 2, .iconst 0, .istore 3] from rfl]
  simp (disch := omega) only [vs_iconst, vs_astore1n, vs_astore1i, vs_astore1r, vs_astore1l, vs_istore2n, vs_istore2i, vs_istore2r, vs_istore2l, vs_istore3n, vs_istore3i, vs_istore3r, vs_istore3l, vs_nil, gv_0, gv_1, gv_2, gv_3, pv_0, pv_1, va_rf_s, Nat.reduceDiv, Nat.reduceMod, Nat.reduceAdd, Nat.reduceMul, Int.reduceToNat, true_and, and_true, and_self, cP_eq, cP_ne, cP_lt, cP_ge, cP_gt, cP_le, eL_i, eL_l, eL_r, eL_n, Option.toList_none, Option.toList_some, List.nil_append, List.cons_append, kkI, llI, nnI, rrI, jjI, kkJ, llJ, nnJ, rrJ, iiJ, zIIs, zJJs, nEF, nET, and_false, false_and, jmin, jmax, catS_n, catS_i, catS_r, catS_l, Nat.reduceLeDiff, j1eq1, n21, jt0, jt1, Bool.false_eq_true, Classical.not_not, true_or, or_true, false_or, or_false, true_imp_iff, false_imp_iff, not_true_eq_false, not_false_eq_true, jif0, jif1, jifb, ltT, ltF, leT, leF, eqT, eqF, jlt, jle, jeq, jlt0, jle0, jeq0, jge0, jgt0, jinB, jnat, clt, cle, ceq, cgt, cge, lI_add, lI_sub, lI_mul, jadd, jsub, jmul, jneg, jtol, b010, b011, pv_2t, Int.toNat_natCast, Option.some.injEq, exists_eq_left', if_true, if_false]
  exact lp 13 0 0 (V nm) s h (by omega) rfl (fun z => absurd rfl z) (by rw [up_same]; exact hs) fr.rf rfl hR
