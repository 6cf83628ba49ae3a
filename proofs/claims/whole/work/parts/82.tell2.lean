/-! Teller: what a part leaves; readPair, readName, readUnit, readTerm -/
def vR (v : Option RowVal) (st : List RowVal) (tm : Bool) (st2 : List RowVal) (tm2 : Bool) : Prop := st2.length = st.length + 1 ∧ (tm = true → tm2 = true) ∧ (tm = false → v = none → tm2 = true) ∧ ∀ u, tm = false → v = some u → tm2 = false ∧ st2 = u :: st
def goQ (t to tx : Nat) (len : Int) (B : Nat → Int) (nm : Nat) (F Wd : Nat → Int) (V : Nat → RowVal) (st : List RowVal) (tm : Bool) (h : Hp) (r : PRes) (Q : Nat → Option Value → Hp → Prop) : Prop := (r.1 = true → ∀ g st2 tm2, fr (teA t) h g → zI g t = zI h t → teS g t to tx len B r.2.2.2.1 st2 tm2 nm F Wd V → vR r.2.2.2.2 st tm st2 tm2 → Q 0 (some (.int (iI 1))) g) ∧ (r.1 = false → ∀ g s2 st2 tm2, fr (teA t) h g → teS g t to tx len B s2 st2 tm2 nm F Wd V → zI g t 5 = iI r.2.1 → zI g t 6 = iI r.2.2.1 → Q 0 (some (.int (iI 0))) g)
theorem goQ.tr {t to tx : Nat} {len : Int} {B : Nat → Int} {nm : Nat} {F Wd : Nat → Int} {V : Nat → RowVal} {st : List RowVal} {tm : Bool} {h h2 : Hp} {r : PRes} {Q : Nat → Option Value → Hp → Prop} (hq : goQ t to tx len B nm F Wd V st tm h r Q) (f : fr (teA t) h h2) (e : zI h2 t = zI h t) : goQ t to tx len B nm F Wd V st tm h2 r Q :=
  ⟨fun z g st2 tm2 f2 e2 gs hv => hq.1 z g st2 tm2 (f.tr f2) (e2.trans e) gs hv, fun z g s2 st2 tm2 f2 gs g5 g6 => hq.2 z g s2 st2 tm2 (f.tr f2) gs g5 g6⟩
theorem bnd_some {x : Option PRes} {k : R4 → Option RowVal → Option PRes} {r : PRes} (h : bnd x k = some r) : ∃ q, x = some q ∧ (q.1 = true ∧ k q.2.2.2.1 q.2.2.2.2 = some r ∨ q.1 = false ∧ r = q) := by
  unfold bnd at h
  cases x with
  | none => cases h
  | some q =>
    dsimp only at h
    refine ⟨q, rfl, ?_⟩
    by_cases c : q.1 = true
    · rw [if_pos c] at h
      exact Or.inl ⟨c, h⟩
    · rw [if_neg c] at h
      exact Or.inr ⟨Bool.eq_false_iff.mpr c, by simpa using h.symm⟩
def sumOK (t to tx : Nat) (len : Int) (B : Nat → Int) (nm : Nat) (F Wd : Nat → Int) (V : Nat → RowVal) (m : Nat) (X : Nat → R4 → Option PRes) (c e : Nat) : Prop := ∀ (o D : Nat) (h : Hp) (s : R4) (st : List RowVal) (tm : Bool) (r : PRes) (Q : Nat → Option Value → Hp → Prop), o ≤ 10 → 8 * (10 - o) + c ≤ D → X o s = some r → teS h t to tx len B s st tm nm F Wd V → st.length ≤ 2 * o + e → goQ t to tx len B nm F Wd V st tm h r Q → PR D m [.ref t, .int (iI o)] h Q
theorem vR_one {u : RowVal} {st : List RowVal} {tm : Bool} : vR (some u) st tm (u :: st) tm := ⟨rfl, fun z => z, fun _ z => (by cases z), fun w z1 z2 => ⟨z1, by rw [show u = w by simpa using z2]⟩⟩
theorem len2 {st : List RowVal} {n : Nat} (h : st.length = n + 1 + 1) : ∃ x y st4, st = x :: y :: st4 ∧ st4.length = n := by
  match st, h with
  | x :: y :: st4, h => exact ⟨x, y, st4, rfl, by simpa using h⟩
theorem len1 {st : List RowVal} {n : Nat} (h : st.length = n + 1) : ∃ x st4, st = x :: st4 ∧ st4.length = n := by
  match st, h with
  | x :: st4, h => exact ⟨x, st4, rfl, by simpa using h⟩
theorem vR_cm {w : Int} {v1 v2 : Option RowVal} {st st2 st4 st5 : List RowVal} {x y : RowVal} {tm tm2 tm3 tm5 : Bool} (h1 : vR v1 st tm st2 tm2) (h2 : vR v2 st2 tm2 (x :: y :: st4) tm3) (h3 : crR w y x st4 tm3 st5 tm5) : vR (cmO w v1 v2) st tm st5 tm5 := by
  obtain ⟨a1, a2, a3, a4⟩ := h1
  obtain ⟨b1, b2, b3, b4⟩ := h2
  obtain ⟨c1, c2, c3, c4⟩ := h3
  have l : st4.length = st.length := by
    have : (x :: y :: st4).length = st4.length + 2 := rfl
    omega
  refine ⟨by omega, fun z => c2 (b2 (a2 z)), fun z1 z2 => ?_, fun u z1 z2 => ?_⟩
  · cases e1 : v1 with
    | none => exact c2 (b2 (a3 z1 e1))
    | some a =>
      obtain ⟨d1, d2⟩ := a4 a z1 e1
      cases e2 : v2 with
      | none => exact c2 (b3 d1 e2)
      | some b =>
        obtain ⟨d3, d4⟩ := b4 b d1 e2
        rw [d2] at d4
        have ex : x = b ∧ y = a ∧ st4 = st := by simpa using d4
        rw [e1, e2] at z2
        refine c3 d3 fun ok => ?_
        rw [ex.1, ex.2.1] at ok
        have : cmO w (some a) (some b) = some (cmV w a b) := if_pos ok
        rw [this] at z2
        cases z2
  · cases e1 : v1 with
    | none => rw [e1] at z2; cases z2
    | some a =>
      obtain ⟨d1, d2⟩ := a4 a z1 e1
      cases e2 : v2 with
      | none => rw [e1, e2] at z2; cases z2
      | some b =>
        obtain ⟨d3, d4⟩ := b4 b d1 e2
        rw [d2] at d4
        obtain ⟨ex, ey, es⟩ : x = b ∧ y = a ∧ st4 = st := by simpa using d4
        rw [e1, e2] at z2
        have e3 : cmO w (some a) (some b) = if okC a b then some (cmV w a b) else none := rfl
        rw [e3] at z2
        by_cases ok : okC a b
        · rw [if_pos ok] at z2
          obtain ⟨y1, y2⟩ := c4 d3 (by rw [ex, ey]; exact ok)
          refine ⟨y1, ?_⟩
          rw [y2, ex, ey, es, show cmV w a b = u by simpa using z2]
        · rw [if_neg ok] at z2
          cases z2
theorem vR_jn {mi : Int32} {v1 v2 : Option RowVal} {st st2 st4 st5 : List RowVal} {x y : RowVal} {tm tm2 tm3 tm5 : Bool} (h1 : vR v1 st tm st2 tm2) (h2 : vR v2 st2 tm2 (x :: y :: st4) tm3) (h3 : jnR mi y x st4 tm3 st5 tm5) : vR (jnO mi v1 v2) st tm st5 tm5 := by
  obtain ⟨a1, a2, a3, a4⟩ := h1
  obtain ⟨b1, b2, b3, b4⟩ := h2
  obtain ⟨c1, c2, c3, c4⟩ := h3
  have l : st4.length = st.length := by
    have : (x :: y :: st4).length = st4.length + 2 := rfl
    omega
  refine ⟨by omega, fun z => c2 (b2 (a2 z)), fun z1 z2 => ?_, fun u z1 z2 => ?_⟩
  · cases e1 : v1 with
    | none => exact c2 (b2 (a3 z1 e1))
    | some a =>
      obtain ⟨d1, d2⟩ := a4 a z1 e1
      cases e2 : v2 with
      | none => exact c2 (b3 d1 e2)
      | some b =>
        obtain ⟨d3, d4⟩ := b4 b d1 e2
        rw [d2] at d4
        have ex : x = b ∧ y = a ∧ st4 = st := by simpa using d4
        rw [e1, e2] at z2
        refine c3 d3 fun ok => ?_
        rw [ex.1, ex.2.1] at ok
        have : jnO mi (some a) (some b) = some (adV mi a b) := if_pos ok
        rw [this] at z2
        cases z2
  · cases e1 : v1 with
    | none => rw [e1] at z2; cases z2
    | some a =>
      obtain ⟨d1, d2⟩ := a4 a z1 e1
      cases e2 : v2 with
      | none => rw [e1, e2] at z2; cases z2
      | some b =>
        obtain ⟨d3, d4⟩ := b4 b d1 e2
        rw [d2] at d4
        obtain ⟨ex, ey, es⟩ : x = b ∧ y = a ∧ st4 = st := by simpa using d4
        rw [e1, e2] at z2
        have e3 : jnO mi (some a) (some b) = if okS mi a b then some (adV mi a b) else none := rfl
        rw [e3] at z2
        by_cases ok : okS mi a b
        · rw [if_pos ok] at z2
          obtain ⟨y1, y2⟩ := c4 d3 (by rw [ex, ey]; exact ok)
          refine ⟨y1, ?_⟩
          rw [y2, ex, ey, es, show adV mi a b = u by simpa using z2]
        · rw [if_neg ok] at z2
          cases z2
theorem vR_rp {n : Int} {v : Option RowVal} {st st4 st5 : List RowVal} {x : RowVal} {tm tm3 tm5 : Bool} (h1 : vR v st tm (x :: st4) tm3) (h3 : rpR x (n.toNat - 1) st4 tm3 st5 tm5) : vR (rpV n v) st tm st5 tm5 := by
  obtain ⟨a1, a2, a3, a4⟩ := h1
  obtain ⟨c1, c2, c3, c4⟩ := h3
  have l : st4.length = st.length := by
    have : (x :: st4).length = st4.length + 1 := rfl
    omega
  refine ⟨by omega, fun z => c2 (a2 z), fun z1 z2 => ?_, fun u z1 z2 => ?_⟩
  · cases e1 : v with
    | none => exact c2 (a3 z1 e1)
    | some a =>
      obtain ⟨d1, d2⟩ := a4 a z1 e1
      obtain ⟨ex, es⟩ : x = a ∧ st4 = st := by simpa using d2
      rw [e1] at z2
      exact c3 d1 (by rw [ex]; exact z2)
  · cases e1 : v with
    | none => rw [e1] at z2; cases z2
    | some a =>
      obtain ⟨d1, d2⟩ := a4 a z1 e1
      obtain ⟨ex, es⟩ : x = a ∧ st4 = st := by simpa using d2
      rw [e1] at z2
      obtain ⟨y1, y2⟩ := c4 u d1 (by rw [ex]; exact z2)
      exact ⟨y1, by rw [y2, es]⟩
theorem vR_ng {v : Option RowVal} {st st4 : List RowVal} {x : RowVal} {tm tm3 : Bool} (h1 : vR v st tm (x :: st4) tm3) : vR (ngO v) st tm (adV 1 (nuV 0) x :: st4) tm3 := by
  obtain ⟨a1, a2, a3, a4⟩ := h1
  refine ⟨a1, a2, fun z1 z2 => ?_, fun u z1 z2 => ?_⟩
  · cases e1 : v with
    | none => exact a3 z1 e1
    | some a => rw [e1] at z2; cases z2
  · cases e1 : v with
    | none => rw [e1] at z2; cases z2
    | some a =>
      obtain ⟨d1, d2⟩ := a4 a z1 e1
      obtain ⟨ex, es⟩ : x = a ∧ st4 = st := by simpa using d2
      rw [e1] at z2
      refine ⟨d1, ?_⟩
      rw [ex, es]
      rw [show adV 1 (nuV 0) a = u by simpa [ngO] using z2]
theorem t_teLay {d : Nat} {h : Hp} {t to tx : Nat} {len n p : Int} {B : Nat → Int} {s : R4} {st : List RowVal} {tm : Bool} {nm : Nat} {F Wd : Nat → Int} {V : Nat → RowVal} {r : PRes} {Q : Nat → Option Value → Hp → Prop} (hs : teS h t to tx len B s st tm nm F Wd V) (hl : st.length < 24) (hn : 0 ≤ n ∧ n ≤ 400000000) (hr : nuS n p s = some r) (hq : goQ t to tx len B nm F Wd V st tm h r Q) : PR (d + 4) m_Teller_layNumber [.ref t, .int (iI n), .int (iI p)] h Q := by
  have T := teF hs
  unfold nuS at hr
  show PW (d + 4) 107 0 [some (.ref t), some (.int (iI n)), some (.int (iI p))] [] h Q
  by_cases c : 60 < n
  · rw [if_pos c] at hr
    have hr : r = (false, 2, p, s, none) := by simpa [flR] using hr.symm
    subst hr
    refine vs_ok 3 ?_
    rw [show ((gRes 107).drop 0).take 3 = [.iload 1, .iconst 60, .if_icmp .le 8] from rfl]
    simp (disch := omega) only [vs_iconst, vs_if_icmp, vs_iload1, vs_nil, gv_0, gv_1, gv_2, gv_3, pv_0, pv_1, va_rf_s, Nat.reduceDiv, Nat.reduceMod, Nat.reduceAdd, Nat.reduceMul, Int.reduceToNat, true_and, and_true, and_self, cP_eq, cP_ne, cP_lt, cP_ge, cP_gt, cP_le, eL_i, eL_l, eL_r, eL_n, Option.toList_none, Option.toList_some, List.nil_append, List.cons_append, kkI, llI, nnI, rrI, jjI, kkJ, llJ, nnJ, rrJ, iiJ, zIIs, zJJs, nEF, nET, and_false, false_and, jmin, jmax, catS_n, catS_i, catS_r, catS_l, Nat.reduceLeDiff, j1eq1, n21, jt0, jt1, Bool.false_eq_true, Classical.not_not, true_or, or_true, false_or, or_false, true_imp_iff, false_imp_iff, not_true_eq_false, not_false_eq_true, jif0, jif1, jifb, ltT, ltF, leT, leF, eqT, eqF, jlt, jle, jeq, jlt0, jle0, jeq0, jge0, jgt0, jinB, jnat, clt, cle, ceq, cgt, cge, lI_add, lI_sub, lI_mul, jadd, jsub, jmul, jneg, jtol, b010, b011, pv_2t, Int.toNat_natCast, Option.some.injEq, exists_eq_left', if_true, if_false]
    refine vs_ok 3 ?_
    rw [show ((gRes 107).drop 3).take 3 = [.aload 0, .iconst 2, .iload 2] from rfl]
    simp (disch := omega) only [vs_iconst, vs_aload0, vs_iload2, vs_nil, gv_0, gv_1, gv_2, gv_3, pv_0, pv_1, va_rf_s, Nat.reduceDiv, Nat.reduceMod, Nat.reduceAdd, Nat.reduceMul, Int.reduceToNat, true_and, and_true, and_self, cP_eq, cP_ne, cP_lt, cP_ge, cP_gt, cP_le, eL_i, eL_l, eL_r, eL_n, Option.toList_none, Option.toList_some, List.nil_append, List.cons_append, kkI, llI, nnI, rrI, jjI, kkJ, llJ, nnJ, rrJ, iiJ, zIIs, zJJs, nEF, nET, and_false, false_and, jmin, jmax, catS_n, catS_i, catS_r, catS_l, Nat.reduceLeDiff, j1eq1, n21, jt0, jt1, Bool.false_eq_true, Classical.not_not, true_or, or_true, false_or, or_false, true_imp_iff, false_imp_iff, not_true_eq_false, not_false_eq_true, jif0, jif1, jifb, ltT, ltF, leT, leF, eqT, eqF, jlt, jle, jeq, jlt0, jle0, jeq0, jge0, jgt0, jinB, jnat, clt, cle, ceq, cgt, cge, lI_add, lI_sub, lI_mul, jadd, jsub, jmul, jneg, jtol, b010, b011, pv_2t, Int.toNat_natCast, Option.some.injEq, exists_eq_left', if_true, if_false]
    refine PW.iv rfl rfl rfl T.1.1 T.1.2.1 (le_b rfl) (le_b rfl) ?_
    refine t_fail hs fun g f gs g5 g6 => ⟨rfl, ⟨f.2.2.1, rfl⟩, ?_⟩
    refine vs_ok 1 ?_
    rw [show ((gRes 107).drop 7).take 1 = [.ireturn] from rfl]
    simp (disch := omega) only [vs_ireturn, vs_nil, gv_0, gv_1, gv_2, gv_3, pv_0, pv_1, va_rf_s, Nat.reduceDiv, Nat.reduceMod, Nat.reduceAdd, Nat.reduceMul, Int.reduceToNat, true_and, and_true, and_self, cP_eq, cP_ne, cP_lt, cP_ge, cP_gt, cP_le, eL_i, eL_l, eL_r, eL_n, Option.toList_none, Option.toList_some, List.nil_append, List.cons_append, kkI, llI, nnI, rrI, jjI, kkJ, llJ, nnJ, rrJ, iiJ, zIIs, zJJs, nEF, nET, and_false, false_and, jmin, jmax, catS_n, catS_i, catS_r, catS_l, Nat.reduceLeDiff, j1eq1, n21, jt0, jt1, Bool.false_eq_true, Classical.not_not, true_or, or_true, false_or, or_false, true_imp_iff, false_imp_iff, not_true_eq_false, not_false_eq_true, jif0, jif1, jifb, ltT, ltF, leT, leF, eqT, eqF, jlt, jle, jeq, jlt0, jle0, jeq0, jge0, jgt0, jinB, jnat, clt, cle, ceq, cgt, cge, lI_add, lI_sub, lI_mul, jadd, jsub, jmul, jneg, jtol, b010, b011, pv_2t, Int.toNat_natCast, Option.some.injEq, exists_eq_left', if_true, if_false, show gRc 107 = 2 from rfl]
    exact hq.2 rfl g s st tm f gs g5 g6
  · rw [if_neg c] at hr
    have hr : r = (true, 0, 0, s, some (nuV n)) := by simpa [okR] using hr.symm
    subst hr
    refine vs_ok 3 ?_
    rw [show ((gRes 107).drop 0).take 3 = [.iload 1, .iconst 60, .if_icmp .le 8] from rfl]
    simp (disch := omega) only [vs_iconst, vs_if_icmp, vs_iload1, vs_nil, gv_0, gv_1, gv_2, gv_3, pv_0, pv_1, va_rf_s, Nat.reduceDiv, Nat.reduceMod, Nat.reduceAdd, Nat.reduceMul, Int.reduceToNat, true_and, and_true, and_self, cP_eq, cP_ne, cP_lt, cP_ge, cP_gt, cP_le, eL_i, eL_l, eL_r, eL_n, Option.toList_none, Option.toList_some, List.nil_append, List.cons_append, kkI, llI, nnI, rrI, jjI, kkJ, llJ, nnJ, rrJ, iiJ, zIIs, zJJs, nEF, nET, and_false, false_and, jmin, jmax, catS_n, catS_i, catS_r, catS_l, Nat.reduceLeDiff, j1eq1, n21, jt0, jt1, Bool.false_eq_true, Classical.not_not, true_or, or_true, false_or, or_false, true_imp_iff, false_imp_iff, not_true_eq_false, not_false_eq_true, jif0, jif1, jifb, ltT, ltF, leT, leF, eqT, eqF, jlt, jle, jeq, jlt0, jle0, jeq0, jge0, jgt0, jinB, jnat, clt, cle, ceq, cgt, cge, lI_add, lI_sub, lI_mul, jadd, jsub, jmul, jneg, jtol, b010, b011, pv_2t, Int.toNat_natCast, Option.some.injEq, exists_eq_left', if_true, if_false]
    refine vs_ok 3 ?_
    rw [show ((gRes 107).drop 8).take 3 = [.aload 0, .getfield 8012, .iload 1] from rfl]
    simp (disch := omega) only [vs_getfield, vs_aload0, vs_iload1, vs_nil, gv_0, gv_1, gv_2, gv_3, pv_0, pv_1, va_rf_s, Nat.reduceDiv, Nat.reduceMod, Nat.reduceAdd, Nat.reduceMul, Int.reduceToNat, true_and, and_true, and_self, cP_eq, cP_ne, cP_lt, cP_ge, cP_gt, cP_le, eL_i, eL_l, eL_r, eL_n, Option.toList_none, Option.toList_some, List.nil_append, List.cons_append, kkI, llI, nnI, rrI, jjI, kkJ, llJ, nnJ, rrJ, iiJ, zIIs, zJJs, nEF, nET, and_false, false_and, jmin, jmax, catS_n, catS_i, catS_r, catS_l, Nat.reduceLeDiff, j1eq1, n21, jt0, jt1, Bool.false_eq_true, Classical.not_not, true_or, or_true, false_or, or_false, true_imp_iff, false_imp_iff, not_true_eq_false, not_false_eq_true, jif0, jif1, jifb, ltT, ltF, leT, leF, eqT, eqF, jlt, jle, jeq, jlt0, jle0, jeq0, jge0, jgt0, jinB, jnat, clt, cle, ceq, cgt, cge, lI_add, lI_sub, lI_mul, jadd, jsub, jmul, jneg, jtol, b010, b011, pv_2t, Int.toNat_natCast, Option.some.injEq, exists_eq_left', if_true, if_false, T]
    refine PW.iv rfl rfl rfl T.2.2.1.1 T.2.2.1.2.1 (le_b rfl) (le_b rfl) ?_
    refine t_bnLayNumber hs.2.2.2.1 hl ⟨by omega, by omega⟩ fun g f gb => ⟨rfl, ⟨f.2.2.1, rfl⟩, ?_⟩
    refine vs_ok 2 ?_
    rw [show ((gRes 107).drop 12).take 2 = [.iconst 1, .ireturn] from rfl]
    simp (disch := omega) only [vs_iconst, vs_ireturn, vs_nil, gv_0, gv_1, gv_2, gv_3, pv_0, pv_1, va_rf_s, Nat.reduceDiv, Nat.reduceMod, Nat.reduceAdd, Nat.reduceMul, Int.reduceToNat, true_and, and_true, and_self, cP_eq, cP_ne, cP_lt, cP_ge, cP_gt, cP_le, eL_i, eL_l, eL_r, eL_n, Option.toList_none, Option.toList_some, List.nil_append, List.cons_append, kkI, llI, nnI, rrI, jjI, kkJ, llJ, nnJ, rrJ, iiJ, zIIs, zJJs, nEF, nET, and_false, false_and, jmin, jmax, catS_n, catS_i, catS_r, catS_l, Nat.reduceLeDiff, j1eq1, n21, jt0, jt1, Bool.false_eq_true, Classical.not_not, true_or, or_true, false_or, or_false, true_imp_iff, false_imp_iff, not_true_eq_false, not_false_eq_true, jif0, jif1, jifb, ltT, ltF, leT, leF, eqT, eqF, jlt, jle, jeq, jlt0, jle0, jeq0, jge0, jgt0, jinB, jnat, clt, cle, ceq, cgt, cge, lI_add, lI_sub, lI_mul, jadd, jsub, jmul, jneg, jtol, b010, b011, pv_2t, Int.toNat_natCast, Option.some.injEq, exists_eq_left', if_true, if_false, show gRc 107 = 2 from rfl]
    exact hq.1 rfl g _ tm (f.wk fun q z => by unfold bnA at z; unfold teA; omega) (f.2.2.2.2.2.1 t (by unfold bnA; omega)) (hs.bn f gb) vR_one
theorem fndW_b {Wd : Nat → Int} {w : Int} : ∀ (k i : Nat), fndW Wd w k i = -1 ∨ (i : Int) ≤ fndW Wd w k i ∧ fndW Wd w k i < ((i + k : Nat) : Int)
  | 0, _ => Or.inl rfl
  | k + 1, i => by
    unfold fndW
    split
    · right
      omega
    · rcases fndW_b (Wd := Wd) (w := w) k (i + 1) with z | z
      · exact Or.inl z
      · right
        omega
