/-! the Model: firstWord -/
theorem smN_cg {f g : Nat → Nat} : ∀ n, (∀ i, i < n → f i = g i) → smN f n = smN g n
  | 0, _ => rfl
  | n + 1, h => by
    show smN f n + f n = smN g n + g n
    rw [smN_cg n fun i hi => h i (by omega), h n (by omega)]
theorem pdW_c {v w : Nat → Nat} {L i d s : Nat} (hi : i < L) (h : ∀ i, i < L → v i = w i) : ∀ k, pdW v L i d s k = pdW w L i d s k
  | 0 => rfl
  | k + 1 => by
    show pdW v L i d s k * (if k = d then 1 else if s.testBit k = true then cnW v k i else cnW v k L - cnW v k (i + 1)) = pdW w L i d s k * (if k = d then 1 else if s.testBit k = true then cnW w k i else cnW w k L - cnW w k (i + 1))
    rw [pdW_c hi h k, cnW_c i fun j hj => h j (by omega), cnW_c L h, cnW_c (i + 1) fun j hj => h j (by omega)]
theorem plM_c {v w : Nat → Nat} {L n : Nat} (h : ∀ i, i < L → v i = w i) : plM v L n = plM w L n := by
  funext d pl
  refine smN_cg L fun i hi => ?_
  show (if v i = d then smN (plS v L d pl n i) (2 ^ n) else 0) = (if w i = d then smN (plS w L d pl n i) (2 ^ n) else 0)
  rw [h i hi, smN_cg (f := plS v L d pl n i) (2 ^ n) fun s hs => by
    show (if s.testBit d = false ∧ pcN s 12 = pl then pdW v L i d s n else 0) = (if s.testBit d = false ∧ pcN s 12 = pl then pdW w L i d s n else 0)
    rw [pdW_c hi h]]
  rfl
theorem blW_c {p v w : Nat → Nat} : ∀ (i k : Nat), (∀ j, j < i → v j = w j) → blW p v i k = blW p w i k
  | 0, _, _ => rfl
  | i + 1, k, h => by
    show blW p v i k + (if v i = p k then (if k = 0 then 1 else blW p v i (k - 1)) else 0) = blW p w i k + (if w i = p k then (if k = 0 then 1 else blW p w i (k - 1)) else 0)
    rw [blW_c i k fun j hj => h j (by omega), blW_c i (k - 1) fun j hj => h j (by omega), h i (by omega)]
/-- fair as asked -/
def gdM (n L q : Nat) (w : Nat → Nat) : Prop := (q % 2 = 1 → faT n (plM w L n)) ∧ (q / 2 % 2 = 1 → faM n (plM w L n)) ∧ (4 ≤ q → oeM w L n)
theorem gdM_c {v w : Nat → Nat} {n L q : Nat} (h : ∀ i, i < L → v i = w i) (g : gdM n L q v) : gdM n L q w := by
  have e : oeM v L n → oeM w L n := fun z a b ha hb oa ob => by
    have := z a b ha hb oa ob
    unfold rwD at this ⊢
    rw [← blW_c (v := v) (w := w) L _ h, ← blW_c (v := v) (w := w) L _ h]
    exact this
  obtain ⟨a, b, c⟩ := g
  rw [plM_c h] at a b
  exact ⟨a, b, fun z => e (c z)⟩
theorem fv_q : ∀ (a b c : Bool) (q : Nat), q < 8 → (fvN a b c &&& q = q ↔ (q % 2 = 1 → a = true) ∧ (q / 2 % 2 = 1 → b = true) ∧ (4 ≤ q → c = true)) := by
  intro a b c
  cases a <;> cases b <;> cases c <;> decide
theorem cn_div {f c : Nat} (hf : 0 < f) : ∀ k, cnW (fun i => i / f) c k = if k ≤ c * f then 0 else if k ≤ c * f + f then k - c * f else f
  | 0 => by rw [if_pos (Nat.zero_le _)]; rfl
  | k + 1 => by
    have e : cnW (fun i => i / f) c (k + 1) = cnW (fun i => i / f) c k + if k / f = c then 1 else 0 := rfl
    have d : k / f = c ↔ c * f ≤ k ∧ k < c * f + f := by
      rw [Nat.div_eq_iff hf]
      have : f * c = c * f := Nat.mul_comm _ _
      omega
    rw [e, cn_div hf k]
    generalize c * f = x at *
    by_cases h : k / f = c
    · rw [if_pos h]
      have := d.mp h
      (repeat' split) <;> omega
    · rw [if_neg h]
      have : ¬ (x ≤ k ∧ k < x + f) := fun z => h (d.mpr z)
      (repeat' split) <;> omega
theorem wd_0 {n f : Nat} (hf : 0 < f) : wdP2 n f (n * f) (fun i => i / f) := by
  refine ⟨fun i hi => Nat.div_lt_of_lt_mul (by rw [Nat.mul_comm]; exact hi), fun c hc => ?_⟩
  have h1 : c * f + f ≤ n * f := by
    have := Nat.mul_le_mul_right f (show c + 1 ≤ n by omega)
    rw [Nat.add_mul] at this
    omega
  rw [cn_div hf, if_neg (by omega)]
  by_cases z : n * f ≤ c * f + f
  · rw [if_pos z]
    omega
  · rw [if_neg z]
theorem wd_0m {n f : Nat} (hf : 0 < f) {v : Nat → Nat} (pv : wdP2 n f (n * f) v) : ¬ lxP (n * f) v (fun i => i / f) := by
  rintro ⟨j, a, b, c⟩
  exact as_min (a := 0) pv (wd_0 hf) (fun i j _ h _ => Nat.div_le_div_right h) a (by omega) b c
theorem nf_b {n f : Nat} (h : (n : Int) * (f : Int) ≤ 12) : n * f ≤ 12 := by
  have : ((n * f : Nat) : Int) ≤ 12 := by rw [Int.natCast_mul]; exact h
  omega
abbrev cfM (n f q : Nat) : Prop := (q % 4 ≠ 0 → f ^ n % n = 0) ∧ (4 ≤ q → f ^ n % fac n = 0)
theorem t_M_firstWord {D : Nat} {h : Hp} {m : Nat} {n f b : Int} {Q : Nat → Option Value → Hp → Prop} (hm : mO h m) (hn : i32 n) (hf : i32 f) (hb : i32 b)
    (q0 : ¬ fwP n f b → ∀ g, mt0 h g m 0 → Q 0 (some (.int (iI (-1)))) g)
    (q1 : fwP n f b → ∀ w, cfM n.toNat f.toNat b.toNat → wdP2 n.toNat f.toNat (n.toNat * f.toNat) w → gdM n.toNat (n.toNat * f.toNat) b.toNat w → (∀ v, wdP2 n.toNat f.toNat (n.toNat * f.toNat) v → gdM n.toNat (n.toNat * f.toNat) b.toNat v → ¬ lxP (n.toNat * f.toNat) v w) → ∀ g, fi (fun q => q = m ∨ q = m + 27 ∨ q = m + 29 ∨ q = m + 30 ∨ q = m + 33) h g → (∀ i, i ≠ 0 → i ≠ 52 → i ≠ 56 → zI g m i = zI h m i) → zI g m 0 = iI 0 → zI g m 56 = iI (n.toNat * f.toNat : Nat) → (∀ i, i < n.toNat * f.toNat → zI g (m + 29) i = iI (w i : Nat)) → Q 0 (some (.int (iI 1))) g)
    (q2 : fwP n f b → (¬ cfM n.toNat f.toNat b.toNat ∨ ∀ v, wdP2 n.toNat f.toNat (n.toNat * f.toNat) v → ¬ gdM n.toNat (n.toNat * f.toNat) b.toNat v) → ∀ g, fi (fun q => q = m ∨ q = m + 27 ∨ q = m + 30 ∨ q = m + 33) h g → (∀ i, i ≠ 0 → i ≠ 52 → zI g m i = zI h m i) → zI g m 0 = iI 0 → Q 0 (some (.int (iI 0))) g) : PR (D + 4) m_M_firstWord [.ref m, .int (iI n), .int (iI f), .int (iI b)] h Q := by
  have M := hm.k
  have n1 := hn.1
  have n2 := hn.2
  have f1 := hf.1
  have f2 := hf.2
  have b1 := hb.1
  have b2 := hb.2
  show PW (D + 4) 261 0 [some (.ref m), some (.int (iI n)), some (.int (iI f)), some (.int (iI b)), none, none, none] [] h Q
  refine vs_ok 3 ?_
  rw [show ((gRes 261).drop 0).take 3 = [.aload 0, .iconst 0, .putfield 12000] from rfl]
  simp (disch := omega) only [vs_iconst, vs_putfield, vs_aload0, vs_nil, gv_0, gv_1, gv_2, gv_3, pv_0, pv_1, va_rf_s, Nat.reduceDiv, Nat.reduceMod, Nat.reduceAdd, Nat.reduceMul, Int.reduceToNat, true_and, and_true, and_self, cP_eq, cP_ne, cP_lt, cP_ge, cP_gt, cP_le, eL_i, eL_l, eL_r, eL_n, Option.toList_none, Option.toList_some, List.nil_append, List.cons_append, kkI, llI, nnI, rrI, jjI, kkJ, llJ, nnJ, rrJ, iiJ, zIIs, zJJs, nEF, nET, and_false, false_and, jmin, jmax, catS_n, catS_i, catS_r, catS_l, Nat.reduceLeDiff, j1eq1, n21, jt0, jt1, Bool.false_eq_true, Classical.not_not, true_or, or_true, false_or, or_false, true_imp_iff, false_imp_iff, not_true_eq_false, not_false_eq_true, jif0, jif1, jifb, ltT, ltF, leT, leF, eqT, eqF, jlt, jle, jeq, jlt0, jle0, jeq0, jge0, jgt0, jinB, jnat, clt, cle, ceq, cgt, cge, lI_add, lI_sub, lI_mul, jadd, jsub, jmul, jneg, jtol, b010, b011, pv_2t, Int.toNat_natCast, Option.some.injEq, exists_eq_left', if_true, if_false, M]
  have t0 := mt0_s (h := h) (m := m) 0
  have hm0 := hm.fi t0.1
  generalize zsI h m 0 (iI 0) = g0 at *
  have M0 := hm0.k
  have no : ¬ fwP n f b → PW (D + 4) 261 23 [some (.ref m), some (.int (iI n)), some (.int (iI f)), some (.int (iI b)), none, none, none] [] g0 Q := fun c => by
    refine vs_ok 2 ?_
    rw [show ((gRes 261).drop 23).take 2 = [.iconst (-1), .ireturn] from rfl]
    simp (disch := omega) only [vs_iconst, vs_ireturn, vs_nil, gv_0, gv_1, gv_2, gv_3, pv_0, pv_1, va_rf_s, Nat.reduceDiv, Nat.reduceMod, Nat.reduceAdd, Nat.reduceMul, Int.reduceToNat, true_and, and_true, and_self, cP_eq, cP_ne, cP_lt, cP_ge, cP_gt, cP_le, eL_i, eL_l, eL_r, eL_n, Option.toList_none, Option.toList_some, List.nil_append, List.cons_append, kkI, llI, nnI, rrI, jjI, kkJ, llJ, nnJ, rrJ, iiJ, zIIs, zJJs, nEF, nET, and_false, false_and, jmin, jmax, catS_n, catS_i, catS_r, catS_l, Nat.reduceLeDiff, j1eq1, n21, jt0, jt1, Bool.false_eq_true, Classical.not_not, true_or, or_true, false_or, or_false, true_imp_iff, false_imp_iff, not_true_eq_false, not_false_eq_true, jif0, jif1, jifb, ltT, ltF, leT, leF, eqT, eqF, jlt, jle, jeq, jlt0, jle0, jeq0, jge0, jgt0, jinB, jnat, clt, cle, ceq, cgt, cge, lI_add, lI_sub, lI_mul, jadd, jsub, jmul, jneg, jtol, b010, b011, pv_2t, Int.toNat_natCast, Option.some.injEq, exists_eq_left', if_true, if_false, show gRc 261 = 1 from rfl]
    exact q0 c g0 t0
  refine vs_ok 3 ?_
  rw [show ((gRes 261).drop 3).take 3 = [.iload 1, .iconst 2, .iconst 4] from rfl]
  simp (disch := omega) only [vs_iconst, vs_iload1, vs_nil, gv_0, gv_1, gv_2, gv_3, pv_0, pv_1, va_rf_s, Nat.reduceDiv, Nat.reduceMod, Nat.reduceAdd, Nat.reduceMul, Int.reduceToNat, true_and, and_true, and_self, cP_eq, cP_ne, cP_lt, cP_ge, cP_gt, cP_le, eL_i, eL_l, eL_r, eL_n, Option.toList_none, Option.toList_some, List.nil_append, List.cons_append, kkI, llI, nnI, rrI, jjI, kkJ, llJ, nnJ, rrJ, iiJ, zIIs, zJJs, nEF, nET, and_false, false_and, jmin, jmax, catS_n, catS_i, catS_r, catS_l, Nat.reduceLeDiff, j1eq1, n21, jt0, jt1, Bool.false_eq_true, Classical.not_not, true_or, or_true, false_or, or_false, true_imp_iff, false_imp_iff, not_true_eq_false, not_false_eq_true, jif0, jif1, jifb, ltT, ltF, leT, leF, eqT, eqF, jlt, jle, jeq, jlt0, jle0, jeq0, jge0, jgt0, jinB, jnat, clt, cle, ceq, cgt, cge, lI_add, lI_sub, lI_mul, jadd, jsub, jmul, jneg, jtol, b010, b011, pv_2t, Int.toNat_natCast, Option.some.injEq, exists_eq_left', if_true, if_false]
  refine PW.ss (r := []) rfl (le_b rfl) rfl rfl (le_b rfl) (le_b rfl) ?_
  refine t_M_isIn hn (by constructor <;> omega) (by constructor <;> omega) ⟨rfl, ⟨rfl, rfl⟩, ?_⟩
  by_cases c1 : 2 ≤ n ∧ n ≤ 4
  · rw [if_pos c1]
    refine vs_ok 1 ?_
    rw [show ((gRes 261).drop 7).take 1 = [.ifCond .eq 23] from rfl]
    simp (disch := omega) only [vs_ifCond, vs_nil, gv_0, gv_1, gv_2, gv_3, pv_0, pv_1, va_rf_s, Nat.reduceDiv, Nat.reduceMod, Nat.reduceAdd, Nat.reduceMul, Int.reduceToNat, true_and, and_true, and_self, cP_eq, cP_ne, cP_lt, cP_ge, cP_gt, cP_le, eL_i, eL_l, eL_r, eL_n, Option.toList_none, Option.toList_some, List.nil_append, List.cons_append, kkI, llI, nnI, rrI, jjI, kkJ, llJ, nnJ, rrJ, iiJ, zIIs, zJJs, nEF, nET, and_false, false_and, jmin, jmax, catS_n, catS_i, catS_r, catS_l, Nat.reduceLeDiff, j1eq1, n21, jt0, jt1, Bool.false_eq_true, Classical.not_not, true_or, or_true, false_or, or_false, true_imp_iff, false_imp_iff, not_true_eq_false, not_false_eq_true, jif0, jif1, jifb, ltT, ltF, leT, leF, eqT, eqF, jlt, jle, jeq, jlt0, jle0, jeq0, jge0, jgt0, jinB, jnat, clt, cle, ceq, cgt, cge, lI_add, lI_sub, lI_mul, jadd, jsub, jmul, jneg, jtol, b010, b011, pv_2t, Int.toNat_natCast, Option.some.injEq, exists_eq_left', if_true, if_false]
    refine vs_ok 3 ?_
    rw [show ((gRes 261).drop 8).take 3 = [.iload 2, .iconst 1, .iconst 6] from rfl]
    simp (disch := omega) only [vs_iconst, vs_iload2, vs_nil, gv_0, gv_1, gv_2, gv_3, pv_0, pv_1, va_rf_s, Nat.reduceDiv, Nat.reduceMod, Nat.reduceAdd, Nat.reduceMul, Int.reduceToNat, true_and, and_true, and_self, cP_eq, cP_ne, cP_lt, cP_ge, cP_gt, cP_le, eL_i, eL_l, eL_r, eL_n, Option.toList_none, Option.toList_some, List.nil_append, List.cons_append, kkI, llI, nnI, rrI, jjI, kkJ, llJ, nnJ, rrJ, iiJ, zIIs, zJJs, nEF, nET, and_false, false_and, jmin, jmax, catS_n, catS_i, catS_r, catS_l, Nat.reduceLeDiff, j1eq1, n21, jt0, jt1, Bool.false_eq_true, Classical.not_not, true_or, or_true, false_or, or_false, true_imp_iff, false_imp_iff, not_true_eq_false, not_false_eq_true, jif0, jif1, jifb, ltT, ltF, leT, leF, eqT, eqF, jlt, jle, jeq, jlt0, jle0, jeq0, jge0, jgt0, jinB, jnat, clt, cle, ceq, cgt, cge, lI_add, lI_sub, lI_mul, jadd, jsub, jmul, jneg, jtol, b010, b011, pv_2t, Int.toNat_natCast, Option.some.injEq, exists_eq_left', if_true, if_false]
    refine PW.ss (r := []) rfl (le_b rfl) rfl rfl (le_b rfl) (le_b rfl) ?_
    refine t_M_isIn hf (by constructor <;> omega) (by constructor <;> omega) ⟨rfl, ⟨rfl, rfl⟩, ?_⟩
    by_cases c2 : 1 ≤ f ∧ f ≤ 6
    · rw [if_pos c2]
      obtain ⟨n, rfl⟩ : ∃ z : Nat, n = z := ⟨n.toNat, by omega⟩
      obtain ⟨f, rfl⟩ : ∃ z : Nat, f = z := ⟨f.toNat, by omega⟩
      have nfb : n * f ≤ 4 * 6 := Nat.mul_le_mul (by omega) (by omega)
      have enf : (n : Int) * (f : Int) = ((n * f : Nat) : Int) := (Int.natCast_mul _ _).symm
      by_cases c3 : n * f ≤ 12
      · refine vs_ok 1 ?_
        rw [show ((gRes 261).drop 12).take 1 = [.ifCond .eq 23] from rfl]
        simp (disch := omega) only [vs_ifCond, vs_nil, gv_0, gv_1, gv_2, gv_3, pv_0, pv_1, va_rf_s, Nat.reduceDiv, Nat.reduceMod, Nat.reduceAdd, Nat.reduceMul, Int.reduceToNat, true_and, and_true, and_self, cP_eq, cP_ne, cP_lt, cP_ge, cP_gt, cP_le, eL_i, eL_l, eL_r, eL_n, Option.toList_none, Option.toList_some, List.nil_append, List.cons_append, kkI, llI, nnI, rrI, jjI, kkJ, llJ, nnJ, rrJ, iiJ, zIIs, zJJs, nEF, nET, and_false, false_and, jmin, jmax, catS_n, catS_i, catS_r, catS_l, Nat.reduceLeDiff, j1eq1, n21, jt0, jt1, Bool.false_eq_true, Classical.not_not, true_or, or_true, false_or, or_false, true_imp_iff, false_imp_iff, not_true_eq_false, not_false_eq_true, jif0, jif1, jifb, ltT, ltF, leT, leF, eqT, eqF, jlt, jle, jeq, jlt0, jle0, jeq0, jge0, jgt0, jinB, jnat, clt, cle, ceq, cgt, cge, lI_add, lI_sub, lI_mul, jadd, jsub, jmul, jneg, jtol, b010, b011, pv_2t, Int.toNat_natCast, Option.some.injEq, exists_eq_left', if_true, if_false]
        refine vs_ok 5 ?_
        rw [show ((gRes 261).drop 13).take 5 = [.iload 1, .iload 2, .imul, .iconst 12, .if_icmp .gt 23] from rfl]
        simp (disch := omega) only [vs_imul, vs_iconst, vs_if_icmp, vs_iload1, vs_iload2, vs_nil, gv_0, gv_1, gv_2, gv_3, pv_0, pv_1, va_rf_s, Nat.reduceDiv, Nat.reduceMod, Nat.reduceAdd, Nat.reduceMul, Int.reduceToNat, true_and, and_true, and_self, cP_eq, cP_ne, cP_lt, cP_ge, cP_gt, cP_le, eL_i, eL_l, eL_r, eL_n, Option.toList_none, Option.toList_some, List.nil_append, List.cons_append, kkI, llI, nnI, rrI, jjI, kkJ, llJ, nnJ, rrJ, iiJ, zIIs, zJJs, nEF, nET, and_false, false_and, jmin, jmax, catS_n, catS_i, catS_r, catS_l, Nat.reduceLeDiff, j1eq1, n21, jt0, jt1, Bool.false_eq_true, Classical.not_not, true_or, or_true, false_or, or_false, true_imp_iff, false_imp_iff, not_true_eq_false, not_false_eq_true, jif0, jif1, jifb, ltT, ltF, leT, leF, eqT, eqF, jlt, jle, jeq, jlt0, jle0, jeq0, jge0, jgt0, jinB, jnat, clt, cle, ceq, cgt, cge, lI_add, lI_sub, lI_mul, jadd, jsub, jmul, jneg, jtol, b010, b011, pv_2t, Int.toNat_natCast, Option.some.injEq, exists_eq_left', if_true, if_false, enf]
        refine vs_ok 3 ?_
        rw [show ((gRes 261).drop 18).take 3 = [.iload 3, .iconst 0, .iconst 7] from rfl]
        simp (disch := omega) only [vs_iconst, vs_iload3, vs_nil, gv_0, gv_1, gv_2, gv_3, pv_0, pv_1, va_rf_s, Nat.reduceDiv, Nat.reduceMod, Nat.reduceAdd, Nat.reduceMul, Int.reduceToNat, true_and, and_true, and_self, cP_eq, cP_ne, cP_lt, cP_ge, cP_gt, cP_le, eL_i, eL_l, eL_r, eL_n, Option.toList_none, Option.toList_some, List.nil_append, List.cons_append, kkI, llI, nnI, rrI, jjI, kkJ, llJ, nnJ, rrJ, iiJ, zIIs, zJJs, nEF, nET, and_false, false_and, jmin, jmax, catS_n, catS_i, catS_r, catS_l, Nat.reduceLeDiff, j1eq1, n21, jt0, jt1, Bool.false_eq_true, Classical.not_not, true_or, or_true, false_or, or_false, true_imp_iff, false_imp_iff, not_true_eq_false, not_false_eq_true, jif0, jif1, jifb, ltT, ltF, leT, leF, eqT, eqF, jlt, jle, jeq, jlt0, jle0, jeq0, jge0, jgt0, jinB, jnat, clt, cle, ceq, cgt, cge, lI_add, lI_sub, lI_mul, jadd, jsub, jmul, jneg, jtol, b010, b011, pv_2t, Int.toNat_natCast, Option.some.injEq, exists_eq_left', if_true, if_false]
        refine PW.ss (r := []) rfl (le_b rfl) rfl rfl (le_b rfl) (le_b rfl) ?_
        refine t_M_isIn hb (by constructor <;> omega) (by constructor <;> omega) ⟨rfl, ⟨rfl, rfl⟩, ?_⟩
        by_cases c4 : 0 ≤ b ∧ b ≤ 7
        · rw [if_pos c4]
          obtain ⟨q, rfl⟩ : ∃ z : Nat, b = z := ⟨b.toNat, by omega⟩
          have fw : fwP (n : Int) (f : Int) (q : Int) := ⟨c1, c2, c4, by rw [enf]; omega⟩
          have q1 := q1 fw
          have q2 := q2 fw
          rw [Int.toNat_natCast, Int.toNat_natCast, Int.toNat_natCast] at q1 q2
          have pb := f_pow f n (by omega) (by omega)
          have fb := fac_b (n := n) (by omega)
          clear no q0 hn hf hb
          -- the words, one by one
          have lp : ∀ (K : Nat) (w : Nat → Nat) (g : Hp), cfM n f q → 4 ^ (n * f) ≤ vlW w (n * f) + K → fi (fun q => q = m ∨ q = m + 27 ∨ q = m + 30 ∨ q = m + 33) h g → (∀ i, i ≠ 0 → i ≠ 52 → zI g m i = zI h m i) → zI g m 0 = iI 0 → ltS g m (n * f) w → wdP2 n f (n * f) w → (∀ v, wdP2 n f (n * f) v → gdM n (n * f) q v → ¬ lxP (n * f) v w) → PW (D + 4) 261 68 [some (.ref m), some (.int (iI n)), some (.int (iI f)), some (.int (iI q)), some (.int (iI (f ^ n : Nat))), some (.int (iI (fac n : Nat))), some (.int (iI 1))] [] g Q := by
            intro K
            induction K with
            | zero =>
              intro w g _ hK _ _ _ lt _ _
              have := vlW_b (w := w) (n * f) fun i hi => (lt.2.2 i hi).1
              omega
            | succ K ih =>
              intro w g hcf hK fg og zg lt pw hmin
              have hg := hm.fi fg
              have M := hg.k
              refine vs_ok 2 ?_
              rw [show ((gRes 261).drop 68).take 2 = [.iload 6, .ifCond .eq 80] from rfl]
              simp (disch := omega) only [vs_ifCond, vs_iload6, vs_nil, gv_0, gv_1, gv_2, gv_3, pv_0, pv_1, va_rf_s, Nat.reduceDiv, Nat.reduceMod, Nat.reduceAdd, Nat.reduceMul, Int.reduceToNat, true_and, and_true, and_self, cP_eq, cP_ne, cP_lt, cP_ge, cP_gt, cP_le, eL_i, eL_l, eL_r, eL_n, Option.toList_none, Option.toList_some, List.nil_append, List.cons_append, kkI, llI, nnI, rrI, jjI, kkJ, llJ, nnJ, rrJ, iiJ, zIIs, zJJs, nEF, nET, and_false, false_and, jmin, jmax, catS_n, catS_i, catS_r, catS_l, Nat.reduceLeDiff, j1eq1, n21, jt0, jt1, Bool.false_eq_true, Classical.not_not, true_or, or_true, false_or, or_false, true_imp_iff, false_imp_iff, not_true_eq_false, not_false_eq_true, jif0, jif1, jifb, ltT, ltF, leT, leF, eqT, eqF, jlt, jle, jeq, jlt0, jle0, jeq0, jge0, jgt0, jinB, jnat, clt, cle, ceq, cgt, cge, lI_add, lI_sub, lI_mul, jadd, jsub, jmul, jneg, jtol, b010, b011, pv_2t, Int.toNat_natCast, Option.some.injEq, exists_eq_left', if_true, if_false]
              refine vs_ok 3 ?_
              rw [show ((gRes 261).drop 70).take 3 = [.aload 0, .iload 1, .iload 3] from rfl]
              simp (disch := omega) only [vs_aload0, vs_iload1, vs_iload3, vs_nil, gv_0, gv_1, gv_2, gv_3, pv_0, pv_1, va_rf_s, Nat.reduceDiv, Nat.reduceMod, Nat.reduceAdd, Nat.reduceMul, Int.reduceToNat, true_and, and_true, and_self, cP_eq, cP_ne, cP_lt, cP_ge, cP_gt, cP_le, eL_i, eL_l, eL_r, eL_n, Option.toList_none, Option.toList_some, List.nil_append, List.cons_append, kkI, llI, nnI, rrI, jjI, kkJ, llJ, nnJ, rrJ, iiJ, zIIs, zJJs, nEF, nET, and_false, false_and, jmin, jmax, catS_n, catS_i, catS_r, catS_l, Nat.reduceLeDiff, j1eq1, n21, jt0, jt1, Bool.false_eq_true, Classical.not_not, true_or, or_true, false_or, or_false, true_imp_iff, false_imp_iff, not_true_eq_false, not_false_eq_true, jif0, jif1, jifb, ltT, ltF, leT, leF, eqT, eqF, jlt, jle, jeq, jlt0, jle0, jeq0, jge0, jgt0, jinB, jnat, clt, cle, ceq, cgt, cge, lI_add, lI_sub, lI_mul, jadd, jsub, jmul, jneg, jtol, b010, b011, pv_2t, Int.toNat_natCast, Option.some.injEq, exists_eq_left', if_true, if_false]
              refine PW.iv rfl rfl rfl M.1 M.2 (le_b rfl) (le_b rfl) ?_
              refine t_M_fairness (D := D) (q := q) hg lt (by omega) (by omega) fun g2 a b c f' hab hc => ⟨rfl, ⟨f'.1.2.2.1, rfl⟩, ?_⟩
              have hg2 := hg.fi f'
              have M2 := hg2.k
              have em : ∀ i, zI g2 m i = zI g m i := fun i => by rw [f'.1.2.2.2.2.2.1 m (by omega)]
              have fg2 := fg.tr (f'.wk fun q z => by omega)
              have lt2 := lt.fi f' (em 52) (by omega)
              have gd : fvN a b c &&& q = q ↔ gdM n (n * f) q w := by
                rw [fv_q a b c q (by omega)]
                unfold gdM
                constructor
                · rintro ⟨x, y, z⟩
                  exact ⟨fun i => (hab (by omega)).1.mp (x i), fun i => (hab (by omega)).2.mp (y i), fun i => (hc i).mp (z i)⟩
                · rintro ⟨x, y, z⟩
                  exact ⟨fun i => (hab (by omega)).1.mpr (x i), fun i => (hab (by omega)).2.mpr (y i), fun i => (hc i).mpr (z i)⟩
              have vb : fvN a b c &&& q ≤ 7 := Nat.le_trans Nat.and_le_right (by omega)
              by_cases cg : fvN a b c &&& q = q
              · have ci : ((fvN a b c &&& q : Nat) : Int) = (q : Int) := by rw [cg]
                refine vs_ok 2 ?_
                rw [show ((gRes 261).drop 74).take 2 = [.iload 3, .if_icmp .eq 80] from rfl]
                simp (disch := omega) only [vs_if_icmp, vs_iload3, vs_nil, gv_0, gv_1, gv_2, gv_3, pv_0, pv_1, va_rf_s, Nat.reduceDiv, Nat.reduceMod, Nat.reduceAdd, Nat.reduceMul, Int.reduceToNat, true_and, and_true, and_self, cP_eq, cP_ne, cP_lt, cP_ge, cP_gt, cP_le, eL_i, eL_l, eL_r, eL_n, Option.toList_none, Option.toList_some, List.nil_append, List.cons_append, kkI, llI, nnI, rrI, jjI, kkJ, llJ, nnJ, rrJ, iiJ, zIIs, zJJs, nEF, nET, and_false, false_and, jmin, jmax, catS_n, catS_i, catS_r, catS_l, Nat.reduceLeDiff, j1eq1, n21, jt0, jt1, Bool.false_eq_true, Classical.not_not, true_or, or_true, false_or, or_false, true_imp_iff, false_imp_iff, not_true_eq_false, not_false_eq_true, jif0, jif1, jifb, ltT, ltF, leT, leF, eqT, eqF, jlt, jle, jeq, jlt0, jle0, jeq0, jge0, jgt0, jinB, jnat, clt, cle, ceq, cgt, cge, lI_add, lI_sub, lI_mul, jadd, jsub, jmul, jneg, jtol, b010, b011, pv_2t, Int.toNat_natCast, Option.some.injEq, exists_eq_left', if_true, if_false]
                refine vs_ok 2 ?_
                rw [show ((gRes 261).drop 80).take 2 = [.iload 6, .ifCond .ne 84] from rfl]
                simp (disch := omega) only [vs_ifCond, vs_iload6, vs_nil, gv_0, gv_1, gv_2, gv_3, pv_0, pv_1, va_rf_s, Nat.reduceDiv, Nat.reduceMod, Nat.reduceAdd, Nat.reduceMul, Int.reduceToNat, true_and, and_true, and_self, cP_eq, cP_ne, cP_lt, cP_ge, cP_gt, cP_le, eL_i, eL_l, eL_r, eL_n, Option.toList_none, Option.toList_some, List.nil_append, List.cons_append, kkI, llI, nnI, rrI, jjI, kkJ, llJ, nnJ, rrJ, iiJ, zIIs, zJJs, nEF, nET, and_false, false_and, jmin, jmax, catS_n, catS_i, catS_r, catS_l, Nat.reduceLeDiff, j1eq1, n21, jt0, jt1, Bool.false_eq_true, Classical.not_not, true_or, or_true, false_or, or_false, true_imp_iff, false_imp_iff, not_true_eq_false, not_false_eq_true, jif0, jif1, jifb, ltT, ltF, leT, leF, eqT, eqF, jlt, jle, jeq, jlt0, jle0, jeq0, jge0, jgt0, jinB, jnat, clt, cle, ceq, cgt, cge, lI_add, lI_sub, lI_mul, jadd, jsub, jmul, jneg, jtol, b010, b011, pv_2t, Int.toNat_natCast, Option.some.injEq, exists_eq_left', if_true, if_false]
                refine vs_ok 1 ?_
                rw [show ((gRes 261).drop 84).take 1 = [.aload 0] from rfl]
                simp (disch := omega) only [vs_aload0, vs_nil, gv_0, gv_1, gv_2, gv_3, pv_0, pv_1, va_rf_s, Nat.reduceDiv, Nat.reduceMod, Nat.reduceAdd, Nat.reduceMul, Int.reduceToNat, true_and, and_true, and_self, cP_eq, cP_ne, cP_lt, cP_ge, cP_gt, cP_le, eL_i, eL_l, eL_r, eL_n, Option.toList_none, Option.toList_some, List.nil_append, List.cons_append, kkI, llI, nnI, rrI, jjI, kkJ, llJ, nnJ, rrJ, iiJ, zIIs, zJJs, nEF, nET, and_false, false_and, jmin, jmax, catS_n, catS_i, catS_r, catS_l, Nat.reduceLeDiff, j1eq1, n21, jt0, jt1, Bool.false_eq_true, Classical.not_not, true_or, or_true, false_or, or_false, true_imp_iff, false_imp_iff, not_true_eq_false, not_false_eq_true, jif0, jif1, jifb, ltT, ltF, leT, leF, eqT, eqF, jlt, jle, jeq, jlt0, jle0, jeq0, jge0, jgt0, jinB, jnat, clt, cle, ceq, cgt, cge, lI_add, lI_sub, lI_mul, jadd, jsub, jmul, jneg, jtol, b010, b011, pv_2t, Int.toNat_natCast, Option.some.injEq, exists_eq_left', if_true, if_false]
                refine PW.iv rfl rfl rfl M2.1 M2.2 (le_b rfl) (le_b rfl) ?_
                refine t_M_keepWord hg2 lt2 fun g3 f3 o3 e56 k3 => ⟨rfl, ⟨f3.1.2.2.1, rfl⟩, ?_⟩
                refine vs_ok 2 ?_
                rw [show ((gRes 261).drop 86).take 2 = [.iconst 1, .ireturn] from rfl]
                simp (disch := omega) only [vs_iconst, vs_ireturn, vs_nil, gv_0, gv_1, gv_2, gv_3, pv_0, pv_1, va_rf_s, Nat.reduceDiv, Nat.reduceMod, Nat.reduceAdd, Nat.reduceMul, Int.reduceToNat, true_and, and_true, and_self, cP_eq, cP_ne, cP_lt, cP_ge, cP_gt, cP_le, eL_i, eL_l, eL_r, eL_n, Option.toList_none, Option.toList_some, List.nil_append, List.cons_append, kkI, llI, nnI, rrI, jjI, kkJ, llJ, nnJ, rrJ, iiJ, zIIs, zJJs, nEF, nET, and_false, false_and, jmin, jmax, catS_n, catS_i, catS_r, catS_l, Nat.reduceLeDiff, j1eq1, n21, jt0, jt1, Bool.false_eq_true, Classical.not_not, true_or, or_true, false_or, or_false, true_imp_iff, false_imp_iff, not_true_eq_false, not_false_eq_true, jif0, jif1, jifb, ltT, ltF, leT, leF, eqT, eqF, jlt, jle, jeq, jlt0, jle0, jeq0, jge0, jgt0, jinB, jnat, clt, cle, ceq, cgt, cge, lI_add, lI_sub, lI_mul, jadd, jsub, jmul, jneg, jtol, b010, b011, pv_2t, Int.toNat_natCast, Option.some.injEq, exists_eq_left', if_true, if_false, show gRc 261 = 1 from rfl]
                exact q1 w hcf pw (gd.mp cg) hmin g3 ((fg2.wk fun q z => by omega).tr (f3.wk fun q z => by omega)) (fun i i0 i52 i56 => by rw [o3 i i56, em, og i i0 i52]) (by rw [o3 0 (by omega), em]; exact zg) e56 k3
              · have ci : ¬ ((fvN a b c &&& q : Nat) : Int) = (q : Int) := by omega
                have ng : ¬ gdM n (n * f) q w := fun z => cg (gd.mpr z)
                have nf1 : 1 ≤ n * f := Nat.mul_pos (by omega) (by omega)
                refine vs_ok 2 ?_
                rw [show ((gRes 261).drop 74).take 2 = [.iload 3, .if_icmp .eq 80] from rfl]
                simp (disch := omega) only [vs_if_icmp, vs_iload3, vs_nil, gv_0, gv_1, gv_2, gv_3, pv_0, pv_1, va_rf_s, Nat.reduceDiv, Nat.reduceMod, Nat.reduceAdd, Nat.reduceMul, Int.reduceToNat, true_and, and_true, and_self, cP_eq, cP_ne, cP_lt, cP_ge, cP_gt, cP_le, eL_i, eL_l, eL_r, eL_n, Option.toList_none, Option.toList_some, List.nil_append, List.cons_append, kkI, llI, nnI, rrI, jjI, kkJ, llJ, nnJ, rrJ, iiJ, zIIs, zJJs, nEF, nET, and_false, false_and, jmin, jmax, catS_n, catS_i, catS_r, catS_l, Nat.reduceLeDiff, j1eq1, n21, jt0, jt1, Bool.false_eq_true, Classical.not_not, true_or, or_true, false_or, or_false, true_imp_iff, false_imp_iff, not_true_eq_false, not_false_eq_true, jif0, jif1, jifb, ltT, ltF, leT, leF, eqT, eqF, jlt, jle, jeq, jlt0, jle0, jeq0, jge0, jgt0, jinB, jnat, clt, cle, ceq, cgt, cge, lI_add, lI_sub, lI_mul, jadd, jsub, jmul, jneg, jtol, b010, b011, pv_2t, Int.toNat_natCast, Option.some.injEq, exists_eq_left', if_true, if_false]
                refine vs_ok 1 ?_
                rw [show ((gRes 261).drop 76).take 1 = [.aload 0] from rfl]
                simp (disch := omega) only [vs_aload0, vs_nil, gv_0, gv_1, gv_2, gv_3, pv_0, pv_1, va_rf_s, Nat.reduceDiv, Nat.reduceMod, Nat.reduceAdd, Nat.reduceMul, Int.reduceToNat, true_and, and_true, and_self, cP_eq, cP_ne, cP_lt, cP_ge, cP_gt, cP_le, eL_i, eL_l, eL_r, eL_n, Option.toList_none, Option.toList_some, List.nil_append, List.cons_append, kkI, llI, nnI, rrI, jjI, kkJ, llJ, nnJ, rrJ, iiJ, zIIs, zJJs, nEF, nET, and_false, false_and, jmin, jmax, catS_n, catS_i, catS_r, catS_l, Nat.reduceLeDiff, j1eq1, n21, jt0, jt1, Bool.false_eq_true, Classical.not_not, true_or, or_true, false_or, or_false, true_imp_iff, false_imp_iff, not_true_eq_false, not_false_eq_true, jif0, jif1, jifb, ltT, ltF, leT, leF, eqT, eqF, jlt, jle, jeq, jlt0, jle0, jeq0, jge0, jgt0, jinB, jnat, clt, cle, ceq, cgt, cge, lI_add, lI_sub, lI_mul, jadd, jsub, jmul, jneg, jtol, b010, b011, pv_2t, Int.toNat_natCast, Option.some.injEq, exists_eq_left', if_true, if_false]
                refine PW.iv rfl rfl rfl M2.1 M2.2 (le_b rfl) (le_b rfl) ?_
                refine t_M_nextWord (d := D + 2) hg2 lt2 nf1 (fun hx => ⟨rfl, ⟨rfl, rfl⟩, ?_⟩) (fun i k x1 x2 x3 x4 x5 x6 x7 g3 f3 lt3 => ⟨rfl, ⟨f3.1.2.2.1, rfl⟩, ?_⟩)
                · refine vs_ok 2 ?_
                  rw [show ((gRes 261).drop 78).take 2 = [.istore 6, .goto 68] from rfl]
                  simp (disch := omega) only [vs_goto, vs_istore6n, vs_istore6i, vs_istore6r, vs_istore6l, vs_nil, gv_0, gv_1, gv_2, gv_3, pv_0, pv_1, va_rf_s, Nat.reduceDiv, Nat.reduceMod, Nat.reduceAdd, Nat.reduceMul, Int.reduceToNat, true_and, and_true, and_self, cP_eq, cP_ne, cP_lt, cP_ge, cP_gt, cP_le, eL_i, eL_l, eL_r, eL_n, Option.toList_none, Option.toList_some, List.nil_append, List.cons_append, kkI, llI, nnI, rrI, jjI, kkJ, llJ, nnJ, rrJ, iiJ, zIIs, zJJs, nEF, nET, and_false, false_and, jmin, jmax, catS_n, catS_i, catS_r, catS_l, Nat.reduceLeDiff, j1eq1, n21, jt0, jt1, Bool.false_eq_true, Classical.not_not, true_or, or_true, false_or, or_false, true_imp_iff, false_imp_iff, not_true_eq_false, not_false_eq_true, jif0, jif1, jifb, ltT, ltF, leT, leF, eqT, eqF, jlt, jle, jeq, jlt0, jle0, jeq0, jge0, jgt0, jinB, jnat, clt, cle, ceq, cgt, cge, lI_add, lI_sub, lI_mul, jadd, jsub, jmul, jneg, jtol, b010, b011, pv_2t, Int.toNat_natCast, Option.some.injEq, exists_eq_left', if_true, if_false]
                  refine vs_ok 2 ?_
                  rw [show ((gRes 261).drop 68).take 2 = [.iload 6, .ifCond .eq 80] from rfl]
                  simp (disch := omega) only [vs_ifCond, vs_iload6, vs_nil, gv_0, gv_1, gv_2, gv_3, pv_0, pv_1, va_rf_s, Nat.reduceDiv, Nat.reduceMod, Nat.reduceAdd, Nat.reduceMul, Int.reduceToNat, true_and, and_true, and_self, cP_eq, cP_ne, cP_lt, cP_ge, cP_gt, cP_le, eL_i, eL_l, eL_r, eL_n, Option.toList_none, Option.toList_some, List.nil_append, List.cons_append, kkI, llI, nnI, rrI, jjI, kkJ, llJ, nnJ, rrJ, iiJ, zIIs, zJJs, nEF, nET, and_false, false_and, jmin, jmax, catS_n, catS_i, catS_r, catS_l, Nat.reduceLeDiff, j1eq1, n21, jt0, jt1, Bool.false_eq_true, Classical.not_not, true_or, or_true, false_or, or_false, true_imp_iff, false_imp_iff, not_true_eq_false, not_false_eq_true, jif0, jif1, jifb, ltT, ltF, leT, leF, eqT, eqF, jlt, jle, jeq, jlt0, jle0, jeq0, jge0, jgt0, jinB, jnat, clt, cle, ceq, cgt, cge, lI_add, lI_sub, lI_mul, jadd, jsub, jmul, jneg, jtol, b010, b011, pv_2t, Int.toNat_natCast, Option.some.injEq, exists_eq_left', if_true, if_false]
                  refine vs_ok 2 ?_
                  rw [show ((gRes 261).drop 80).take 2 = [.iload 6, .ifCond .ne 84] from rfl]
                  simp (disch := omega) only [vs_ifCond, vs_iload6, vs_nil, gv_0, gv_1, gv_2, gv_3, pv_0, pv_1, va_rf_s, Nat.reduceDiv, Nat.reduceMod, Nat.reduceAdd, Nat.reduceMul, Int.reduceToNat, true_and, and_true, and_self, cP_eq, cP_ne, cP_lt, cP_ge, cP_gt, cP_le, eL_i, eL_l, eL_r, eL_n, Option.toList_none, Option.toList_some, List.nil_append, List.cons_append, kkI, llI, nnI, rrI, jjI, kkJ, llJ, nnJ, rrJ, iiJ, zIIs, zJJs, nEF, nET, and_false, false_and, jmin, jmax, catS_n, catS_i, catS_r, catS_l, Nat.reduceLeDiff, j1eq1, n21, jt0, jt1, Bool.false_eq_true, Classical.not_not, true_or, or_true, false_or, or_false, true_imp_iff, false_imp_iff, not_true_eq_false, not_false_eq_true, jif0, jif1, jifb, ltT, ltF, leT, leF, eqT, eqF, jlt, jle, jeq, jlt0, jle0, jeq0, jge0, jgt0, jinB, jnat, clt, cle, ceq, cgt, cge, lI_add, lI_sub, lI_mul, jadd, jsub, jmul, jneg, jtol, b010, b011, pv_2t, Int.toNat_natCast, Option.some.injEq, exists_eq_left', if_true, if_false]
                  refine vs_ok 2 ?_
                  rw [show ((gRes 261).drop 82).take 2 = [.iconst 0, .ireturn] from rfl]
                  simp (disch := omega) only [vs_iconst, vs_ireturn, vs_nil, gv_0, gv_1, gv_2, gv_3, pv_0, pv_1, va_rf_s, Nat.reduceDiv, Nat.reduceMod, Nat.reduceAdd, Nat.reduceMul, Int.reduceToNat, true_and, and_true, and_self, cP_eq, cP_ne, cP_lt, cP_ge, cP_gt, cP_le, eL_i, eL_l, eL_r, eL_n, Option.toList_none, Option.toList_some, List.nil_append, List.cons_append, kkI, llI, nnI, rrI, jjI, kkJ, llJ, nnJ, rrJ, iiJ, zIIs, zJJs, nEF, nET, and_false, false_and, jmin, jmax, catS_n, catS_i, catS_r, catS_l, Nat.reduceLeDiff, j1eq1, n21, jt0, jt1, Bool.false_eq_true, Classical.not_not, true_or, or_true, false_or, or_false, true_imp_iff, false_imp_iff, not_true_eq_false, not_false_eq_true, jif0, jif1, jifb, ltT, ltF, leT, leF, eqT, eqF, jlt, jle, jeq, jlt0, jle0, jeq0, jge0, jgt0, jinB, jnat, clt, cle, ceq, cgt, cge, lI_add, lI_sub, lI_mul, jadd, jsub, jmul, jneg, jtol, b010, b011, pv_2t, Int.toNat_natCast, Option.some.injEq, exists_eq_left', if_true, if_false, show gRc 261 = 1 from rfl]
                  refine q2 (Or.inr fun v pv gv => ?_) g2 fg2 (fun i i0 i52 => by rw [em, og i i0 i52]) (by rw [em]; exact zg)
                  rcases lx_tri v w (n * f) with z | z | z
                  · exact hmin v pv gv z
                  · exact nx_none pv pw hx z
                  · exact ng (gdM_c z gv)
                · obtain ⟨y1, y2, y3⟩ := nx_some pw x1 x2 x3 x4 x5 x6 x7
                  have vl := vlW_lt (fun i hi => (lt.2.2 i hi).1) y2
                  have em3 : ∀ i, zI g3 m i = zI g m i := fun i => by rw [f3.1.2.2.2.2.2.1 m (by omega), em]
                  refine vs_ok 2 ?_
                  rw [show ((gRes 261).drop 78).take 2 = [.istore 6, .goto 68] from rfl]
                  simp (disch := omega) only [vs_goto, vs_istore6n, vs_istore6i, vs_istore6r, vs_istore6l, vs_nil, gv_0, gv_1, gv_2, gv_3, pv_0, pv_1, va_rf_s, Nat.reduceDiv, Nat.reduceMod, Nat.reduceAdd, Nat.reduceMul, Int.reduceToNat, true_and, and_true, and_self, cP_eq, cP_ne, cP_lt, cP_ge, cP_gt, cP_le, eL_i, eL_l, eL_r, eL_n, Option.toList_none, Option.toList_some, List.nil_append, List.cons_append, kkI, llI, nnI, rrI, jjI, kkJ, llJ, nnJ, rrJ, iiJ, zIIs, zJJs, nEF, nET, and_false, false_and, jmin, jmax, catS_n, catS_i, catS_r, catS_l, Nat.reduceLeDiff, j1eq1, n21, jt0, jt1, Bool.false_eq_true, Classical.not_not, true_or, or_true, false_or, or_false, true_imp_iff, false_imp_iff, not_true_eq_false, not_false_eq_true, jif0, jif1, jifb, ltT, ltF, leT, leF, eqT, eqF, jlt, jle, jeq, jlt0, jle0, jeq0, jge0, jgt0, jinB, jnat, clt, cle, ceq, cgt, cge, lI_add, lI_sub, lI_mul, jadd, jsub, jmul, jneg, jtol, b010, b011, pv_2t, Int.toNat_natCast, Option.some.injEq, exists_eq_left', if_true, if_false]
                  refine ih _ g3 hcf (by omega) (fg2.tr (f3.wk fun q z => by omega)) (fun i i0 i52 => by rw [em3, og i i0 i52]) (by rw [em3]; exact zg) lt3 y1 fun v pv gv z => ?_
                  rcases y3 v pv with u | u
                  · rcases lx_tri v w (n * f) with z' | z' | z'
                    · exact hmin v pv gv z'
                    · exact u z'
                    · exact ng (gdM_c z' gv)
                  · exact u z
          have p60 : ∀ l6, ¬ cfM n f q → PW (D + 4) 261 60 [some (.ref m), some (.int (iI n)), some (.int (iI f)), some (.int (iI q)), some (.int (iI (f ^ n : Nat))), some (.int (iI (fac n : Nat))), l6] [] g0 Q := fun l6 c => by
            refine vs_ok 2 ?_
            rw [show ((gRes 261).drop 60).take 2 = [.iconst 0, .ireturn] from rfl]
            simp (disch := omega) only [vs_iconst, vs_ireturn, vs_nil, gv_0, gv_1, gv_2, gv_3, pv_0, pv_1, va_rf_s, Nat.reduceDiv, Nat.reduceMod, Nat.reduceAdd, Nat.reduceMul, Int.reduceToNat, true_and, and_true, and_self, cP_eq, cP_ne, cP_lt, cP_ge, cP_gt, cP_le, eL_i, eL_l, eL_r, eL_n, Option.toList_none, Option.toList_some, List.nil_append, List.cons_append, kkI, llI, nnI, rrI, jjI, kkJ, llJ, nnJ, rrJ, iiJ, zIIs, zJJs, nEF, nET, and_false, false_and, jmin, jmax, catS_n, catS_i, catS_r, catS_l, Nat.reduceLeDiff, j1eq1, n21, jt0, jt1, Bool.false_eq_true, Classical.not_not, true_or, or_true, false_or, or_false, true_imp_iff, false_imp_iff, not_true_eq_false, not_false_eq_true, jif0, jif1, jifb, ltT, ltF, leT, leF, eqT, eqF, jlt, jle, jeq, jlt0, jle0, jeq0, jge0, jgt0, jinB, jnat, clt, cle, ceq, cgt, cge, lI_add, lI_sub, lI_mul, jadd, jsub, jmul, jneg, jtol, b010, b011, pv_2t, Int.toNat_natCast, Option.some.injEq, exists_eq_left', if_true, if_false, show gRc 261 = 1 from rfl]
            exact q2 (Or.inl c) g0 (t0.1.wk fun q z => Or.inl z) (fun i i0 _ => t0.2.1 i i0) t0.2.2
          have p62 : ∀ l6, cfM n f q → PW (D + 4) 261 62 [some (.ref m), some (.int (iI n)), some (.int (iI f)), some (.int (iI q)), some (.int (iI (f ^ n : Nat))), some (.int (iI (fac n : Nat))), l6] [] g0 Q := fun l6 c => by
            refine vs_ok 3 ?_
            rw [show ((gRes 261).drop 62).take 3 = [.aload 0, .iload 1, .iload 2] from rfl]
            simp (disch := omega) only [vs_aload0, vs_iload1, vs_iload2, vs_nil, gv_0, gv_1, gv_2, gv_3, pv_0, pv_1, va_rf_s, Nat.reduceDiv, Nat.reduceMod, Nat.reduceAdd, Nat.reduceMul, Int.reduceToNat, true_and, and_true, and_self, cP_eq, cP_ne, cP_lt, cP_ge, cP_gt, cP_le, eL_i, eL_l, eL_r, eL_n, Option.toList_none, Option.toList_some, List.nil_append, List.cons_append, kkI, llI, nnI, rrI, jjI, kkJ, llJ, nnJ, rrJ, iiJ, zIIs, zJJs, nEF, nET, and_false, false_and, jmin, jmax, catS_n, catS_i, catS_r, catS_l, Nat.reduceLeDiff, j1eq1, n21, jt0, jt1, Bool.false_eq_true, Classical.not_not, true_or, or_true, false_or, or_false, true_imp_iff, false_imp_iff, not_true_eq_false, not_false_eq_true, jif0, jif1, jifb, ltT, ltF, leT, leF, eqT, eqF, jlt, jle, jeq, jlt0, jle0, jeq0, jge0, jgt0, jinB, jnat, clt, cle, ceq, cgt, cge, lI_add, lI_sub, lI_mul, jadd, jsub, jmul, jneg, jtol, b010, b011, pv_2t, Int.toNat_natCast, Option.some.injEq, exists_eq_left', if_true, if_false]
            refine PW.iv rfl rfl rfl M0.1 M0.2 (le_b rfl) (le_b rfl) ?_
            refine t_M_firstOf hm0 (by omega) (by omega) fun g1 f1' o1 lt1 => ⟨rfl, ⟨f1'.1.2.2.1, rfl⟩, ?_⟩
            refine vs_ok 2 ?_
            rw [show ((gRes 261).drop 66).take 2 = [.iconst 1, .istore 6] from rfl]
            simp (disch := omega) only [vs_iconst, vs_istore6n, vs_istore6i, vs_istore6r, vs_istore6l, vs_nil, gv_0, gv_1, gv_2, gv_3, pv_0, pv_1, va_rf_s, Nat.reduceDiv, Nat.reduceMod, Nat.reduceAdd, Nat.reduceMul, Int.reduceToNat, true_and, and_true, and_self, cP_eq, cP_ne, cP_lt, cP_ge, cP_gt, cP_le, eL_i, eL_l, eL_r, eL_n, Option.toList_none, Option.toList_some, List.nil_append, List.cons_append, kkI, llI, nnI, rrI, jjI, kkJ, llJ, nnJ, rrJ, iiJ, zIIs, zJJs, nEF, nET, and_false, false_and, jmin, jmax, catS_n, catS_i, catS_r, catS_l, Nat.reduceLeDiff, j1eq1, n21, jt0, jt1, Bool.false_eq_true, Classical.not_not, true_or, or_true, false_or, or_false, true_imp_iff, false_imp_iff, not_true_eq_false, not_false_eq_true, jif0, jif1, jifb, ltT, ltF, leT, leF, eqT, eqF, jlt, jle, jeq, jlt0, jle0, jeq0, jge0, jgt0, jinB, jnat, clt, cle, ceq, cgt, cge, lI_add, lI_sub, lI_mul, jadd, jsub, jmul, jneg, jtol, b010, b011, pv_2t, Int.toNat_natCast, Option.some.injEq, exists_eq_left', if_true, if_false]
            exact lp (4 ^ (n * f)) _ g1 c (by omega) ((t0.1.wk fun q z => Or.inl z).tr (f1'.wk fun q z => by omega)) (fun i i0 i52 => by rw [o1 i i52, t0.2.1 i i0]) (by rw [o1 0 (by omega)]; exact t0.2.2) lt1 (wd_0 (by omega)) fun v pv _ => wd_0m (by omega) pv
          have nz : ¬ Int32.ofInt (n : Int) = 0 := fun z => by
            have := (zeq0 (x := (n : Int)) (by constructor <;> omega)).mp z
            omega
          have fz : ¬ Int32.ofInt (fac n : Int) = 0 := fun z => by
            have := (zeq0 (x := (fac n : Int)) (by constructor <;> omega)).mp z
            omega
          have mn := jmN (f ^ n) n (by omega) (by omega) (by omega)
          have mf := jmN (f ^ n) (fac n) (by omega) (by omega) (by omega)
          have m1 := Nat.mod_lt (f ^ n) (show 0 < n by omega)
          have m2 := Nat.mod_lt (f ^ n) (show 0 < fac n by omega)
          have q4b : q % 4 < 4 := Nat.mod_lt _ (by omega)
          have p52 : ∀ l6, (q % 4 ≠ 0 → f ^ n % n = 0) → PW (D + 4) 261 52 [some (.ref m), some (.int (iI n)), some (.int (iI f)), some (.int (iI q)), some (.int (iI (f ^ n : Nat))), some (.int (iI (fac n : Nat))), l6] [] g0 Q := fun l6 c => by
            by_cases c4q : 4 ≤ q
            · have q4 : q &&& 4 = 4 := by
                have : q = 4 ∨ q = 5 ∨ q = 6 ∨ q = 7 := by omega
                rcases this with z | z | z | z <;> rw [z] <;> decide
              have j4 : Int32.ofInt (q : Int) &&& Int32.ofInt 4 = Int32.ofInt 4 := by
                have := jand q 4
                rw [q4] at this
                exact this
              by_cases cz : f ^ n % fac n = 0
              · refine vs_ok 4 ?_
                rw [show ((gRes 261).drop 52).take 4 = [.iload 3, .iconst 4, .iand, .ifCond .eq 62] from rfl]
                simp (disch := omega) only [vs_iconst, vs_ifCond, vs_iload3, vs_nil, gv_0, gv_1, gv_2, gv_3, pv_0, pv_1, va_rf_s, vs_iand, Nat.reduceDiv, Nat.reduceMod, Nat.reduceAdd, Nat.reduceMul, Int.reduceToNat, true_and, and_true, and_self, cP_eq, cP_ne, cP_lt, cP_ge, cP_gt, cP_le, eL_i, eL_l, eL_r, eL_n, Option.toList_none, Option.toList_some, List.nil_append, List.cons_append, kkI, llI, nnI, rrI, jjI, kkJ, llJ, nnJ, rrJ, iiJ, zIIs, zJJs, nEF, nET, and_false, false_and, jmin, jmax, catS_n, catS_i, catS_r, catS_l, Nat.reduceLeDiff, j1eq1, n21, jt0, jt1, Bool.false_eq_true, Classical.not_not, true_or, or_true, false_or, or_false, true_imp_iff, false_imp_iff, not_true_eq_false, not_false_eq_true, jif0, jif1, jifb, ltT, ltF, leT, leF, eqT, eqF, jlt, jle, jeq, jlt0, jle0, jeq0, jge0, jgt0, jinB, jnat, clt, cle, ceq, cgt, cge, lI_add, lI_sub, lI_mul, jadd, jsub, jmul, jneg, jtol, b010, b011, pv_2t, Int.toNat_natCast, Option.some.injEq, exists_eq_left', if_true, if_false, j4]
                refine vs_ok 4 ?_
                rw [show ((gRes 261).drop 56).take 4 = [.iload 4, .iload 5, .irem, .ifCond .eq 62] from rfl]
                simp (disch := omega) only [vs_irem, vs_ifCond, vs_iload4, vs_iload5, vs_nil, gv_0, gv_1, gv_2, gv_3, pv_0, pv_1, va_rf_s, Nat.reduceDiv, Nat.reduceMod, Nat.reduceAdd, Nat.reduceMul, Int.reduceToNat, true_and, and_true, and_self, cP_eq, cP_ne, cP_lt, cP_ge, cP_gt, cP_le, eL_i, eL_l, eL_r, eL_n, Option.toList_none, Option.toList_some, List.nil_append, List.cons_append, kkI, llI, nnI, rrI, jjI, kkJ, llJ, nnJ, rrJ, iiJ, zIIs, zJJs, nEF, nET, and_false, false_and, jmin, jmax, catS_n, catS_i, catS_r, catS_l, Nat.reduceLeDiff, j1eq1, n21, jt0, jt1, Bool.false_eq_true, Classical.not_not, true_or, or_true, false_or, or_false, true_imp_iff, false_imp_iff, not_true_eq_false, not_false_eq_true, jif0, jif1, jifb, ltT, ltF, leT, leF, eqT, eqF, jlt, jle, jeq, jlt0, jle0, jeq0, jge0, jgt0, jinB, jnat, clt, cle, ceq, cgt, cge, lI_add, lI_sub, lI_mul, jadd, jsub, jmul, jneg, jtol, b010, b011, pv_2t, Int.toNat_natCast, Option.some.injEq, exists_eq_left', if_true, if_false, fz, mf, cz]
                exact p62 _ ⟨c, fun _ => cz⟩
              · refine vs_ok 4 ?_
                rw [show ((gRes 261).drop 52).take 4 = [.iload 3, .iconst 4, .iand, .ifCond .eq 62] from rfl]
                simp (disch := omega) only [vs_iconst, vs_ifCond, vs_iload3, vs_nil, gv_0, gv_1, gv_2, gv_3, pv_0, pv_1, va_rf_s, vs_iand, Nat.reduceDiv, Nat.reduceMod, Nat.reduceAdd, Nat.reduceMul, Int.reduceToNat, true_and, and_true, and_self, cP_eq, cP_ne, cP_lt, cP_ge, cP_gt, cP_le, eL_i, eL_l, eL_r, eL_n, Option.toList_none, Option.toList_some, List.nil_append, List.cons_append, kkI, llI, nnI, rrI, jjI, kkJ, llJ, nnJ, rrJ, iiJ, zIIs, zJJs, nEF, nET, and_false, false_and, jmin, jmax, catS_n, catS_i, catS_r, catS_l, Nat.reduceLeDiff, j1eq1, n21, jt0, jt1, Bool.false_eq_true, Classical.not_not, true_or, or_true, false_or, or_false, true_imp_iff, false_imp_iff, not_true_eq_false, not_false_eq_true, jif0, jif1, jifb, ltT, ltF, leT, leF, eqT, eqF, jlt, jle, jeq, jlt0, jle0, jeq0, jge0, jgt0, jinB, jnat, clt, cle, ceq, cgt, cge, lI_add, lI_sub, lI_mul, jadd, jsub, jmul, jneg, jtol, b010, b011, pv_2t, Int.toNat_natCast, Option.some.injEq, exists_eq_left', if_true, if_false, j4]
                refine vs_ok 4 ?_
                rw [show ((gRes 261).drop 56).take 4 = [.iload 4, .iload 5, .irem, .ifCond .eq 62] from rfl]
                simp (disch := omega) only [vs_irem, vs_ifCond, vs_iload4, vs_iload5, vs_nil, gv_0, gv_1, gv_2, gv_3, pv_0, pv_1, va_rf_s, Nat.reduceDiv, Nat.reduceMod, Nat.reduceAdd, Nat.reduceMul, Int.reduceToNat, true_and, and_true, and_self, cP_eq, cP_ne, cP_lt, cP_ge, cP_gt, cP_le, eL_i, eL_l, eL_r, eL_n, Option.toList_none, Option.toList_some, List.nil_append, List.cons_append, kkI, llI, nnI, rrI, jjI, kkJ, llJ, nnJ, rrJ, iiJ, zIIs, zJJs, nEF, nET, and_false, false_and, jmin, jmax, catS_n, catS_i, catS_r, catS_l, Nat.reduceLeDiff, j1eq1, n21, jt0, jt1, Bool.false_eq_true, Classical.not_not, true_or, or_true, false_or, or_false, true_imp_iff, false_imp_iff, not_true_eq_false, not_false_eq_true, jif0, jif1, jifb, ltT, ltF, leT, leF, eqT, eqF, jlt, jle, jeq, jlt0, jle0, jeq0, jge0, jgt0, jinB, jnat, clt, cle, ceq, cgt, cge, lI_add, lI_sub, lI_mul, jadd, jsub, jmul, jneg, jtol, b010, b011, pv_2t, Int.toNat_natCast, Option.some.injEq, exists_eq_left', if_true, if_false, fz, mf]
                exact p60 _ fun z => cz (z.2 c4q)
            · have q4 : q &&& 4 = 0 := by
                have : q = 0 ∨ q = 1 ∨ q = 2 ∨ q = 3 := by omega
                rcases this with z | z | z | z <;> rw [z] <;> decide
              have j4 : Int32.ofInt (q : Int) &&& Int32.ofInt 4 = Int32.ofInt 0 := by
                have := jand q 4
                rw [q4] at this
                exact this
              refine vs_ok 4 ?_
              rw [show ((gRes 261).drop 52).take 4 = [.iload 3, .iconst 4, .iand, .ifCond .eq 62] from rfl]
              simp (disch := omega) only [vs_iconst, vs_ifCond, vs_iload3, vs_nil, gv_0, gv_1, gv_2, gv_3, pv_0, pv_1, va_rf_s, vs_iand, Nat.reduceDiv, Nat.reduceMod, Nat.reduceAdd, Nat.reduceMul, Int.reduceToNat, true_and, and_true, and_self, cP_eq, cP_ne, cP_lt, cP_ge, cP_gt, cP_le, eL_i, eL_l, eL_r, eL_n, Option.toList_none, Option.toList_some, List.nil_append, List.cons_append, kkI, llI, nnI, rrI, jjI, kkJ, llJ, nnJ, rrJ, iiJ, zIIs, zJJs, nEF, nET, and_false, false_and, jmin, jmax, catS_n, catS_i, catS_r, catS_l, Nat.reduceLeDiff, j1eq1, n21, jt0, jt1, Bool.false_eq_true, Classical.not_not, true_or, or_true, false_or, or_false, true_imp_iff, false_imp_iff, not_true_eq_false, not_false_eq_true, jif0, jif1, jifb, ltT, ltF, leT, leF, eqT, eqF, jlt, jle, jeq, jlt0, jle0, jeq0, jge0, jgt0, jinB, jnat, clt, cle, ceq, cgt, cge, lI_add, lI_sub, lI_mul, jadd, jsub, jmul, jneg, jtol, b010, b011, pv_2t, Int.toNat_natCast, Option.some.injEq, exists_eq_left', if_true, if_false, j4]
              exact p62 _ ⟨c, fun z => absurd z c4q⟩
          have lpk : ∀ (j k : Nat), j + k = n → PW (D + 4) 261 31 [some (.ref m), some (.int (iI n)), some (.int (iI f)), some (.int (iI q)), some (.int (iI (f ^ k : Nat))), some (.int (iI (fac k : Nat))), some (.int (iI ((k : Int) + 1)))] [] g0 Q := by
            intro j
            induction j with
            | zero =>
              intro k hk
              have e : k = n := by omega
              rw [e]
              by_cases c3q : q % 4 = 0
              · refine vs_ok 3 ?_
                rw [show ((gRes 261).drop 31).take 3 = [.iload 6, .iload 1, .if_icmp .gt 44] from rfl]
                simp (disch := omega) only [vs_if_icmp, vs_iload1, vs_iload6, vs_nil, gv_0, gv_1, gv_2, gv_3, pv_0, pv_1, va_rf_s, Nat.reduceDiv, Nat.reduceMod, Nat.reduceAdd, Nat.reduceMul, Int.reduceToNat, true_and, and_true, and_self, cP_eq, cP_ne, cP_lt, cP_ge, cP_gt, cP_le, eL_i, eL_l, eL_r, eL_n, Option.toList_none, Option.toList_some, List.nil_append, List.cons_append, kkI, llI, nnI, rrI, jjI, kkJ, llJ, nnJ, rrJ, iiJ, zIIs, zJJs, nEF, nET, and_false, false_and, jmin, jmax, catS_n, catS_i, catS_r, catS_l, Nat.reduceLeDiff, j1eq1, n21, jt0, jt1, Bool.false_eq_true, Classical.not_not, true_or, or_true, false_or, or_false, true_imp_iff, false_imp_iff, not_true_eq_false, not_false_eq_true, jif0, jif1, jifb, ltT, ltF, leT, leF, eqT, eqF, jlt, jle, jeq, jlt0, jle0, jeq0, jge0, jgt0, jinB, jnat, clt, cle, ceq, cgt, cge, lI_add, lI_sub, lI_mul, jadd, jsub, jmul, jneg, jtol, b010, b011, pv_2t, Int.toNat_natCast, Option.some.injEq, exists_eq_left', if_true, if_false]
                refine vs_ok 4 ?_
                rw [show ((gRes 261).drop 44).take 4 = [.iload 3, .iconst 3, .iand, .ifCond .eq 52] from rfl]
                simp (disch := omega) only [vs_iconst, vs_ifCond, vs_iload3, vs_nil, gv_0, gv_1, gv_2, gv_3, pv_0, pv_1, va_rf_s, vs_iand, Nat.reduceDiv, Nat.reduceMod, Nat.reduceAdd, Nat.reduceMul, Int.reduceToNat, true_and, and_true, and_self, cP_eq, cP_ne, cP_lt, cP_ge, cP_gt, cP_le, eL_i, eL_l, eL_r, eL_n, Option.toList_none, Option.toList_some, List.nil_append, List.cons_append, kkI, llI, nnI, rrI, jjI, kkJ, llJ, nnJ, rrJ, iiJ, zIIs, zJJs, nEF, nET, and_false, false_and, jmin, jmax, catS_n, catS_i, catS_r, catS_l, Nat.reduceLeDiff, j1eq1, n21, jt0, jt1, Bool.false_eq_true, Classical.not_not, true_or, or_true, false_or, or_false, true_imp_iff, false_imp_iff, not_true_eq_false, not_false_eq_true, jif0, jif1, jifb, ltT, ltF, leT, leF, eqT, eqF, jlt, jle, jeq, jlt0, jle0, jeq0, jge0, jgt0, jinB, jnat, clt, cle, ceq, cgt, cge, lI_add, lI_sub, lI_mul, jadd, jsub, jmul, jneg, jtol, b010, b011, pv_2t, Int.toNat_natCast, Option.some.injEq, exists_eq_left', if_true, if_false, jand3, c3q]
                exact p52 _ fun z => absurd c3q z
              · by_cases cz : f ^ n % n = 0
                · refine vs_ok 3 ?_
                  rw [show ((gRes 261).drop 31).take 3 = [.iload 6, .iload 1, .if_icmp .gt 44] from rfl]
                  simp (disch := omega) only [vs_if_icmp, vs_iload1, vs_iload6, vs_nil, gv_0, gv_1, gv_2, gv_3, pv_0, pv_1, va_rf_s, Nat.reduceDiv, Nat.reduceMod, Nat.reduceAdd, Nat.reduceMul, Int.reduceToNat, true_and, and_true, and_self, cP_eq, cP_ne, cP_lt, cP_ge, cP_gt, cP_le, eL_i, eL_l, eL_r, eL_n, Option.toList_none, Option.toList_some, List.nil_append, List.cons_append, kkI, llI, nnI, rrI, jjI, kkJ, llJ, nnJ, rrJ, iiJ, zIIs, zJJs, nEF, nET, and_false, false_and, jmin, jmax, catS_n, catS_i, catS_r, catS_l, Nat.reduceLeDiff, j1eq1, n21, jt0, jt1, Bool.false_eq_true, Classical.not_not, true_or, or_true, false_or, or_false, true_imp_iff, false_imp_iff, not_true_eq_false, not_false_eq_true, jif0, jif1, jifb, ltT, ltF, leT, leF, eqT, eqF, jlt, jle, jeq, jlt0, jle0, jeq0, jge0, jgt0, jinB, jnat, clt, cle, ceq, cgt, cge, lI_add, lI_sub, lI_mul, jadd, jsub, jmul, jneg, jtol, b010, b011, pv_2t, Int.toNat_natCast, Option.some.injEq, exists_eq_left', if_true, if_false]
                  refine vs_ok 4 ?_
                  rw [show ((gRes 261).drop 44).take 4 = [.iload 3, .iconst 3, .iand, .ifCond .eq 52] from rfl]
                  simp (disch := omega) only [vs_iconst, vs_ifCond, vs_iload3, vs_nil, gv_0, gv_1, gv_2, gv_3, pv_0, pv_1, va_rf_s, vs_iand, Nat.reduceDiv, Nat.reduceMod, Nat.reduceAdd, Nat.reduceMul, Int.reduceToNat, true_and, and_true, and_self, cP_eq, cP_ne, cP_lt, cP_ge, cP_gt, cP_le, eL_i, eL_l, eL_r, eL_n, Option.toList_none, Option.toList_some, List.nil_append, List.cons_append, kkI, llI, nnI, rrI, jjI, kkJ, llJ, nnJ, rrJ, iiJ, zIIs, zJJs, nEF, nET, and_false, false_and, jmin, jmax, catS_n, catS_i, catS_r, catS_l, Nat.reduceLeDiff, j1eq1, n21, jt0, jt1, Bool.false_eq_true, Classical.not_not, true_or, or_true, false_or, or_false, true_imp_iff, false_imp_iff, not_true_eq_false, not_false_eq_true, jif0, jif1, jifb, ltT, ltF, leT, leF, eqT, eqF, jlt, jle, jeq, jlt0, jle0, jeq0, jge0, jgt0, jinB, jnat, clt, cle, ceq, cgt, cge, lI_add, lI_sub, lI_mul, jadd, jsub, jmul, jneg, jtol, b010, b011, pv_2t, Int.toNat_natCast, Option.some.injEq, exists_eq_left', if_true, if_false, jand3]
                  refine vs_ok 4 ?_
                  rw [show ((gRes 261).drop 48).take 4 = [.iload 4, .iload 1, .irem, .ifCond .ne 60] from rfl]
                  simp (disch := omega) only [vs_irem, vs_ifCond, vs_iload1, vs_iload4, vs_nil, gv_0, gv_1, gv_2, gv_3, pv_0, pv_1, va_rf_s, Nat.reduceDiv, Nat.reduceMod, Nat.reduceAdd, Nat.reduceMul, Int.reduceToNat, true_and, and_true, and_self, cP_eq, cP_ne, cP_lt, cP_ge, cP_gt, cP_le, eL_i, eL_l, eL_r, eL_n, Option.toList_none, Option.toList_some, List.nil_append, List.cons_append, kkI, llI, nnI, rrI, jjI, kkJ, llJ, nnJ, rrJ, iiJ, zIIs, zJJs, nEF, nET, and_false, false_and, jmin, jmax, catS_n, catS_i, catS_r, catS_l, Nat.reduceLeDiff, j1eq1, n21, jt0, jt1, Bool.false_eq_true, Classical.not_not, true_or, or_true, false_or, or_false, true_imp_iff, false_imp_iff, not_true_eq_false, not_false_eq_true, jif0, jif1, jifb, ltT, ltF, leT, leF, eqT, eqF, jlt, jle, jeq, jlt0, jle0, jeq0, jge0, jgt0, jinB, jnat, clt, cle, ceq, cgt, cge, lI_add, lI_sub, lI_mul, jadd, jsub, jmul, jneg, jtol, b010, b011, pv_2t, Int.toNat_natCast, Option.some.injEq, exists_eq_left', if_true, if_false, nz, mn, cz]
                  exact p52 _ fun _ => cz
                · refine vs_ok 3 ?_
                  rw [show ((gRes 261).drop 31).take 3 = [.iload 6, .iload 1, .if_icmp .gt 44] from rfl]
                  simp (disch := omega) only [vs_if_icmp, vs_iload1, vs_iload6, vs_nil, gv_0, gv_1, gv_2, gv_3, pv_0, pv_1, va_rf_s, Nat.reduceDiv, Nat.reduceMod, Nat.reduceAdd, Nat.reduceMul, Int.reduceToNat, true_and, and_true, and_self, cP_eq, cP_ne, cP_lt, cP_ge, cP_gt, cP_le, eL_i, eL_l, eL_r, eL_n, Option.toList_none, Option.toList_some, List.nil_append, List.cons_append, kkI, llI, nnI, rrI, jjI, kkJ, llJ, nnJ, rrJ, iiJ, zIIs, zJJs, nEF, nET, and_false, false_and, jmin, jmax, catS_n, catS_i, catS_r, catS_l, Nat.reduceLeDiff, j1eq1, n21, jt0, jt1, Bool.false_eq_true, Classical.not_not, true_or, or_true, false_or, or_false, true_imp_iff, false_imp_iff, not_true_eq_false, not_false_eq_true, jif0, jif1, jifb, ltT, ltF, leT, leF, eqT, eqF, jlt, jle, jeq, jlt0, jle0, jeq0, jge0, jgt0, jinB, jnat, clt, cle, ceq, cgt, cge, lI_add, lI_sub, lI_mul, jadd, jsub, jmul, jneg, jtol, b010, b011, pv_2t, Int.toNat_natCast, Option.some.injEq, exists_eq_left', if_true, if_false]
                  refine vs_ok 4 ?_
                  rw [show ((gRes 261).drop 44).take 4 = [.iload 3, .iconst 3, .iand, .ifCond .eq 52] from rfl]
                  simp (disch := omega) only [vs_iconst, vs_ifCond, vs_iload3, vs_nil, gv_0, gv_1, gv_2, gv_3, pv_0, pv_1, va_rf_s, vs_iand, Nat.reduceDiv, Nat.reduceMod, Nat.reduceAdd, Nat.reduceMul, Int.reduceToNat, true_and, and_true, and_self, cP_eq, cP_ne, cP_lt, cP_ge, cP_gt, cP_le, eL_i, eL_l, eL_r, eL_n, Option.toList_none, Option.toList_some, List.nil_append, List.cons_append, kkI, llI, nnI, rrI, jjI, kkJ, llJ, nnJ, rrJ, iiJ, zIIs, zJJs, nEF, nET, and_false, false_and, jmin, jmax, catS_n, catS_i, catS_r, catS_l, Nat.reduceLeDiff, j1eq1, n21, jt0, jt1, Bool.false_eq_true, Classical.not_not, true_or, or_true, false_or, or_false, true_imp_iff, false_imp_iff, not_true_eq_false, not_false_eq_true, jif0, jif1, jifb, ltT, ltF, leT, leF, eqT, eqF, jlt, jle, jeq, jlt0, jle0, jeq0, jge0, jgt0, jinB, jnat, clt, cle, ceq, cgt, cge, lI_add, lI_sub, lI_mul, jadd, jsub, jmul, jneg, jtol, b010, b011, pv_2t, Int.toNat_natCast, Option.some.injEq, exists_eq_left', if_true, if_false, jand3]
                  refine vs_ok 4 ?_
                  rw [show ((gRes 261).drop 48).take 4 = [.iload 4, .iload 1, .irem, .ifCond .ne 60] from rfl]
                  simp (disch := omega) only [vs_irem, vs_ifCond, vs_iload1, vs_iload4, vs_nil, gv_0, gv_1, gv_2, gv_3, pv_0, pv_1, va_rf_s, Nat.reduceDiv, Nat.reduceMod, Nat.reduceAdd, Nat.reduceMul, Int.reduceToNat, true_and, and_true, and_self, cP_eq, cP_ne, cP_lt, cP_ge, cP_gt, cP_le, eL_i, eL_l, eL_r, eL_n, Option.toList_none, Option.toList_some, List.nil_append, List.cons_append, kkI, llI, nnI, rrI, jjI, kkJ, llJ, nnJ, rrJ, iiJ, zIIs, zJJs, nEF, nET, and_false, false_and, jmin, jmax, catS_n, catS_i, catS_r, catS_l, Nat.reduceLeDiff, j1eq1, n21, jt0, jt1, Bool.false_eq_true, Classical.not_not, true_or, or_true, false_or, or_false, true_imp_iff, false_imp_iff, not_true_eq_false, not_false_eq_true, jif0, jif1, jifb, ltT, ltF, leT, leF, eqT, eqF, jlt, jle, jeq, jlt0, jle0, jeq0, jge0, jgt0, jinB, jnat, clt, cle, ceq, cgt, cge, lI_add, lI_sub, lI_mul, jadd, jsub, jmul, jneg, jtol, b010, b011, pv_2t, Int.toNat_natCast, Option.some.injEq, exists_eq_left', if_true, if_false, nz, mn]
                  exact p60 _ fun z => cz (z.1 c3q)
            | succ j ih =>
              intro k hk
              have pk := f_pow f k (by omega) (by omega)
              have fk := fac_b (n := k) (by omega)
              have e1 : ((f ^ k : Nat) : Int) * (f : Int) = ((f ^ (k + 1) : Nat) : Int) := by rw [Nat.pow_succ, Int.natCast_mul]
              have e2 : ((fac k : Nat) : Int) * ((k : Int) + 1) = ((fac (k + 1) : Nat) : Int) := by
                show _ = ((fac k * (k + 1) : Nat) : Int)
                rw [Int.natCast_mul]
                rfl
              have q := ih (k + 1) (by omega)
              refine vs_ok 3 ?_
              rw [show ((gRes 261).drop 31).take 3 = [.iload 6, .iload 1, .if_icmp .gt 44] from rfl]
              simp (disch := omega) only [vs_if_icmp, vs_iload1, vs_iload6, vs_nil, gv_0, gv_1, gv_2, gv_3, pv_0, pv_1, va_rf_s, Nat.reduceDiv, Nat.reduceMod, Nat.reduceAdd, Nat.reduceMul, Int.reduceToNat, true_and, and_true, and_self, cP_eq, cP_ne, cP_lt, cP_ge, cP_gt, cP_le, eL_i, eL_l, eL_r, eL_n, Option.toList_none, Option.toList_some, List.nil_append, List.cons_append, kkI, llI, nnI, rrI, jjI, kkJ, llJ, nnJ, rrJ, iiJ, zIIs, zJJs, nEF, nET, and_false, false_and, jmin, jmax, catS_n, catS_i, catS_r, catS_l, Nat.reduceLeDiff, j1eq1, n21, jt0, jt1, Bool.false_eq_true, Classical.not_not, true_or, or_true, false_or, or_false, true_imp_iff, false_imp_iff, not_true_eq_false, not_false_eq_true, jif0, jif1, jifb, ltT, ltF, leT, leF, eqT, eqF, jlt, jle, jeq, jlt0, jle0, jeq0, jge0, jgt0, jinB, jnat, clt, cle, ceq, cgt, cge, lI_add, lI_sub, lI_mul, jadd, jsub, jmul, jneg, jtol, b010, b011, pv_2t, Int.toNat_natCast, Option.some.injEq, exists_eq_left', if_true, if_false]
              refine vs_ok 10 ?_
              rw [show ((gRes 261).drop 34).take 10 = [.iload 4, .iload 2, .imul, .istore 4, .iload 5, .iload 6, .imul, .istore 5, .iinc 6 1, .goto 31] from rfl]
              simp (disch := omega) only [vs_imul, vs_goto, vs_iload2, vs_iload4, vs_istore4n, vs_istore4i, vs_istore4r, vs_istore4l, vs_iload5, vs_istore5n, vs_istore5i, vs_istore5r, vs_istore5l, vs_iload6, vs_iinc6n, vs_iinc6i, vs_iinc6r, vs_iinc6l, vs_nil, gv_0, gv_1, gv_2, gv_3, pv_0, pv_1, va_rf_s, Nat.reduceDiv, Nat.reduceMod, Nat.reduceAdd, Nat.reduceMul, Int.reduceToNat, true_and, and_true, and_self, cP_eq, cP_ne, cP_lt, cP_ge, cP_gt, cP_le, eL_i, eL_l, eL_r, eL_n, Option.toList_none, Option.toList_some, List.nil_append, List.cons_append, kkI, llI, nnI, rrI, jjI, kkJ, llJ, nnJ, rrJ, iiJ, zIIs, zJJs, nEF, nET, and_false, false_and, jmin, jmax, catS_n, catS_i, catS_r, catS_l, Nat.reduceLeDiff, j1eq1, n21, jt0, jt1, Bool.false_eq_true, Classical.not_not, true_or, or_true, false_or, or_false, true_imp_iff, false_imp_iff, not_true_eq_false, not_false_eq_true, jif0, jif1, jifb, ltT, ltF, leT, leF, eqT, eqF, jlt, jle, jeq, jlt0, jle0, jeq0, jge0, jgt0, jinB, jnat, clt, cle, ceq, cgt, cge, lI_add, lI_sub, lI_mul, jadd, jsub, jmul, jneg, jtol, b010, b011, pv_2t, Int.toNat_natCast, Option.some.injEq, exists_eq_left', if_true, if_false, e1, e2]
              exact q
          refine vs_ok 1 ?_
          rw [show ((gRes 261).drop 22).take 1 = [.ifCond .ne 25] from rfl]
          simp (disch := omega) only [vs_ifCond, vs_nil, gv_0, gv_1, gv_2, gv_3, pv_0, pv_1, va_rf_s, Nat.reduceDiv, Nat.reduceMod, Nat.reduceAdd, Nat.reduceMul, Int.reduceToNat, true_and, and_true, and_self, cP_eq, cP_ne, cP_lt, cP_ge, cP_gt, cP_le, eL_i, eL_l, eL_r, eL_n, Option.toList_none, Option.toList_some, List.nil_append, List.cons_append, kkI, llI, nnI, rrI, jjI, kkJ, llJ, nnJ, rrJ, iiJ, zIIs, zJJs, nEF, nET, and_false, false_and, jmin, jmax, catS_n, catS_i, catS_r, catS_l, Nat.reduceLeDiff, j1eq1, n21, jt0, jt1, Bool.false_eq_true, Classical.not_not, true_or, or_true, false_or, or_false, true_imp_iff, false_imp_iff, not_true_eq_false, not_false_eq_true, jif0, jif1, jifb, ltT, ltF, leT, leF, eqT, eqF, jlt, jle, jeq, jlt0, jle0, jeq0, jge0, jgt0, jinB, jnat, clt, cle, ceq, cgt, cge, lI_add, lI_sub, lI_mul, jadd, jsub, jmul, jneg, jtol, b010, b011, pv_2t, Int.toNat_natCast, Option.some.injEq, exists_eq_left', if_true, if_false]
          refine vs_ok 6 ?_
          rw [show ((gRes 261).drop 25).take 6 = [.iconst 1, .istore 4, .iconst 1, .istore 5, .iconst 1, .istore 6] from rfl]
          simp (disch := omega) only [vs_iconst, vs_istore4n, vs_istore4i, vs_istore4r, vs_istore4l, vs_istore5n, vs_istore5i, vs_istore5r, vs_istore5l, vs_istore6n, vs_istore6i, vs_istore6r, vs_istore6l, vs_nil, gv_0, gv_1, gv_2, gv_3, pv_0, pv_1, va_rf_s, Nat.reduceDiv, Nat.reduceMod, Nat.reduceAdd, Nat.reduceMul, Int.reduceToNat, true_and, and_true, and_self, cP_eq, cP_ne, cP_lt, cP_ge, cP_gt, cP_le, eL_i, eL_l, eL_r, eL_n, Option.toList_none, Option.toList_some, List.nil_append, List.cons_append, kkI, llI, nnI, rrI, jjI, kkJ, llJ, nnJ, rrJ, iiJ, zIIs, zJJs, nEF, nET, and_false, false_and, jmin, jmax, catS_n, catS_i, catS_r, catS_l, Nat.reduceLeDiff, j1eq1, n21, jt0, jt1, Bool.false_eq_true, Classical.not_not, true_or, or_true, false_or, or_false, true_imp_iff, false_imp_iff, not_true_eq_false, not_false_eq_true, jif0, jif1, jifb, ltT, ltF, leT, leF, eqT, eqF, jlt, jle, jeq, jlt0, jle0, jeq0, jge0, jgt0, jinB, jnat, clt, cle, ceq, cgt, cge, lI_add, lI_sub, lI_mul, jadd, jsub, jmul, jneg, jtol, b010, b011, pv_2t, Int.toNat_natCast, Option.some.injEq, exists_eq_left', if_true, if_false]
          exact lpk n 0 (by omega)
        · rw [if_neg c4]
          refine vs_ok 1 ?_
          rw [show ((gRes 261).drop 22).take 1 = [.ifCond .ne 25] from rfl]
          simp (disch := omega) only [vs_ifCond, vs_nil, gv_0, gv_1, gv_2, gv_3, pv_0, pv_1, va_rf_s, Nat.reduceDiv, Nat.reduceMod, Nat.reduceAdd, Nat.reduceMul, Int.reduceToNat, true_and, and_true, and_self, cP_eq, cP_ne, cP_lt, cP_ge, cP_gt, cP_le, eL_i, eL_l, eL_r, eL_n, Option.toList_none, Option.toList_some, List.nil_append, List.cons_append, kkI, llI, nnI, rrI, jjI, kkJ, llJ, nnJ, rrJ, iiJ, zIIs, zJJs, nEF, nET, and_false, false_and, jmin, jmax, catS_n, catS_i, catS_r, catS_l, Nat.reduceLeDiff, j1eq1, n21, jt0, jt1, Bool.false_eq_true, Classical.not_not, true_or, or_true, false_or, or_false, true_imp_iff, false_imp_iff, not_true_eq_false, not_false_eq_true, jif0, jif1, jifb, ltT, ltF, leT, leF, eqT, eqF, jlt, jle, jeq, jlt0, jle0, jeq0, jge0, jgt0, jinB, jnat, clt, cle, ceq, cgt, cge, lI_add, lI_sub, lI_mul, jadd, jsub, jmul, jneg, jtol, b010, b011, pv_2t, Int.toNat_natCast, Option.some.injEq, exists_eq_left', if_true, if_false]
          exact no fun z => c4 z.2.2.1
      · refine vs_ok 1 ?_
        rw [show ((gRes 261).drop 12).take 1 = [.ifCond .eq 23] from rfl]
        simp (disch := omega) only [vs_ifCond, vs_nil, gv_0, gv_1, gv_2, gv_3, pv_0, pv_1, va_rf_s, Nat.reduceDiv, Nat.reduceMod, Nat.reduceAdd, Nat.reduceMul, Int.reduceToNat, true_and, and_true, and_self, cP_eq, cP_ne, cP_lt, cP_ge, cP_gt, cP_le, eL_i, eL_l, eL_r, eL_n, Option.toList_none, Option.toList_some, List.nil_append, List.cons_append, kkI, llI, nnI, rrI, jjI, kkJ, llJ, nnJ, rrJ, iiJ, zIIs, zJJs, nEF, nET, and_false, false_and, jmin, jmax, catS_n, catS_i, catS_r, catS_l, Nat.reduceLeDiff, j1eq1, n21, jt0, jt1, Bool.false_eq_true, Classical.not_not, true_or, or_true, false_or, or_false, true_imp_iff, false_imp_iff, not_true_eq_false, not_false_eq_true, jif0, jif1, jifb, ltT, ltF, leT, leF, eqT, eqF, jlt, jle, jeq, jlt0, jle0, jeq0, jge0, jgt0, jinB, jnat, clt, cle, ceq, cgt, cge, lI_add, lI_sub, lI_mul, jadd, jsub, jmul, jneg, jtol, b010, b011, pv_2t, Int.toNat_natCast, Option.some.injEq, exists_eq_left', if_true, if_false]
        refine vs_ok 5 ?_
        rw [show ((gRes 261).drop 13).take 5 = [.iload 1, .iload 2, .imul, .iconst 12, .if_icmp .gt 23] from rfl]
        simp (disch := omega) only [vs_imul, vs_iconst, vs_if_icmp, vs_iload1, vs_iload2, vs_nil, gv_0, gv_1, gv_2, gv_3, pv_0, pv_1, va_rf_s, Nat.reduceDiv, Nat.reduceMod, Nat.reduceAdd, Nat.reduceMul, Int.reduceToNat, true_and, and_true, and_self, cP_eq, cP_ne, cP_lt, cP_ge, cP_gt, cP_le, eL_i, eL_l, eL_r, eL_n, Option.toList_none, Option.toList_some, List.nil_append, List.cons_append, kkI, llI, nnI, rrI, jjI, kkJ, llJ, nnJ, rrJ, iiJ, zIIs, zJJs, nEF, nET, and_false, false_and, jmin, jmax, catS_n, catS_i, catS_r, catS_l, Nat.reduceLeDiff, j1eq1, n21, jt0, jt1, Bool.false_eq_true, Classical.not_not, true_or, or_true, false_or, or_false, true_imp_iff, false_imp_iff, not_true_eq_false, not_false_eq_true, jif0, jif1, jifb, ltT, ltF, leT, leF, eqT, eqF, jlt, jle, jeq, jlt0, jle0, jeq0, jge0, jgt0, jinB, jnat, clt, cle, ceq, cgt, cge, lI_add, lI_sub, lI_mul, jadd, jsub, jmul, jneg, jtol, b010, b011, pv_2t, Int.toNat_natCast, Option.some.injEq, exists_eq_left', if_true, if_false, enf]
        exact no fun z => c3 (nf_b z.2.2.2)
    · rw [if_neg c2]
      refine vs_ok 1 ?_
      rw [show ((gRes 261).drop 12).take 1 = [.ifCond .eq 23] from rfl]
      simp (disch := omega) only [vs_ifCond, vs_nil, gv_0, gv_1, gv_2, gv_3, pv_0, pv_1, va_rf_s, Nat.reduceDiv, Nat.reduceMod, Nat.reduceAdd, Nat.reduceMul, Int.reduceToNat, true_and, and_true, and_self, cP_eq, cP_ne, cP_lt, cP_ge, cP_gt, cP_le, eL_i, eL_l, eL_r, eL_n, Option.toList_none, Option.toList_some, List.nil_append, List.cons_append, kkI, llI, nnI, rrI, jjI, kkJ, llJ, nnJ, rrJ, iiJ, zIIs, zJJs, nEF, nET, and_false, false_and, jmin, jmax, catS_n, catS_i, catS_r, catS_l, Nat.reduceLeDiff, j1eq1, n21, jt0, jt1, Bool.false_eq_true, Classical.not_not, true_or, or_true, false_or, or_false, true_imp_iff, false_imp_iff, not_true_eq_false, not_false_eq_true, jif0, jif1, jifb, ltT, ltF, leT, leF, eqT, eqF, jlt, jle, jeq, jlt0, jle0, jeq0, jge0, jgt0, jinB, jnat, clt, cle, ceq, cgt, cge, lI_add, lI_sub, lI_mul, jadd, jsub, jmul, jneg, jtol, b010, b011, pv_2t, Int.toNat_natCast, Option.some.injEq, exists_eq_left', if_true, if_false]
      exact no fun z => c2 z.2.1
  · rw [if_neg c1]
    refine vs_ok 1 ?_
    rw [show ((gRes 261).drop 7).take 1 = [.ifCond .eq 23] from rfl]
    simp (disch := omega) only [vs_ifCond, vs_nil, gv_0, gv_1, gv_2, gv_3, pv_0, pv_1, va_rf_s, Nat.reduceDiv, Nat.reduceMod, Nat.reduceAdd, Nat.reduceMul, Int.reduceToNat, true_and, and_true, and_self, cP_eq, cP_ne, cP_lt, cP_ge, cP_gt, cP_le, eL_i, eL_l, eL_r, eL_n, Option.toList_none, Option.toList_some, List.nil_append, List.cons_append, kkI, llI, nnI, rrI, jjI, kkJ, llJ, nnJ, rrJ, iiJ, zIIs, zJJs, nEF, nET, and_false, false_and, jmin, jmax, catS_n, catS_i, catS_r, catS_l, Nat.reduceLeDiff, j1eq1, n21, jt0, jt1, Bool.false_eq_true, Classical.not_not, true_or, or_true, false_or, or_false, true_imp_iff, false_imp_iff, not_true_eq_false, not_false_eq_true, jif0, jif1, jifb, ltT, ltF, leT, leF, eqT, eqF, jlt, jle, jeq, jlt0, jle0, jeq0, jge0, jgt0, jinB, jnat, clt, cle, ceq, cgt, cge, lI_add, lI_sub, lI_mul, jadd, jsub, jmul, jneg, jtol, b010, b011, pv_2t, Int.toNat_natCast, Option.some.injEq, exists_eq_left', if_true, if_false]
    exact no fun z => c1 z.1
