/-! FaceSearch: keep, addFound -/
/-- what is kept: how many, their starts, their slots, the slots' faces; how many were found -/
abbrev KpT : Type := Nat × (Nat → Nat) × (Nat → Nat) × (Nat → Int) × Nat
def pkS (h : Hp) (x p q : Nat) (K : KpT) : Prop := (zI h (x + 1) 3 = iI K.1 ∧ K.1 ≤ 100 ∧ zI h (x + 1) 4 = iI p ∧ zI h (x + 1) 5 = iI q) ∧ (∀ i, i < 100 → K.2.1 i ≤ 60 ∧ zI h (x + 1 + 2) i = iI (K.2.1 i)) ∧ (∀ i, i < 100 → K.2.2.1 i < 100 ∧ zI h (x + 1 + 3) i = iI (K.2.2.1 i)) ∧ (∀ j, j < 6500 → zI h (x + 1 + 1) j = iI (K.2.2.2.1 j)) ∧ zI h x 12 = iI K.2.2.2.2
def kpF (p : Nat) (X Y : Nat → Nat) (start other : Nat) (K : KpT) : KpT :=
  if atF K.2.1 start K.1 = 100 then K else
    (min (K.1 + 1) 100, shF K.2.1 (atF K.2.1 start K.1) (min (K.1 + 1) 100) start, shF K.2.2.1 (atF K.2.1 start K.1) (min (K.1 + 1) 100) (if K.1 < 100 then K.1 else K.2.2.1 99),
      pfW (pfW K.2.2.2.1 (65 * (if K.1 < 100 then K.1 else K.2.2.1 99) + 0) start X (smN X 61)) (65 * (if K.1 < 100 then K.1 else K.2.2.1 99) + p) other Y (smN Y 61), K.2.2.2.2)
theorem shF_b {st : Nat → Nat} {a kp v B : Nat} (hs : ∀ i, i < 100 → st i ≤ B) (hv : v ≤ B) {i : Nat} (hi : i < 100) : shF st a kp v i ≤ B := by
  unfold shF
  split
  · exact hs i hi
  · split
    · exact hv
    · split
      · exact hs _ (by omega)
      · exact hs i hi
theorem t_keep {d : Nat} {h : Hp} {x p q start other : Nat} {K : KpT} {X Y : Nat → Nat} {Q : Nat → Option Value → Hp → Prop} (ho : fsO h x) (h5 : zI h x 5 = iI p) (hk : pkS h x p q K) (hx : ∀ i, i < 61 → X i ≤ 64 ∧ zI h (x + 6) i = iI (X i)) (hy : ∀ i, i < 61 → Y i ≤ 64 ∧ zI h (x + 7) i = iI (Y i)) (hs : start ≤ 60) (hot : other ≤ 60) (sx : smN X 61 = p) (sy : smN Y 61 = q) (hpq : p + q ≤ 65)
    (hq : ∀ g, fi (fun q => x + 1 ≤ q ∧ q ≤ x + 4) h g → pkS g x p q (kpF p X Y start other K) → Q 0 none g) : PR (d + 1) m_FaceSearch_keep [.ref x, .int (iI start), .int (iI other)] h Q := by
  have N := fsF ho
  have oP := ho.2.2.2.2.2
  have nP := paF oP
  obtain ⟨⟨k1, k2, k3, k4⟩, k5, k6, k7, k8⟩ := hk
  obtain ⟨kp, st, sl, fc, fd⟩ := K
  dsimp only at k1 k2 k5 k6 k7 k8
  have al := atF_le st start kp
  unfold kpF at hq
  dsimp only at hq
  show PW (d + 1) 21 0 [some (.ref x), some (.int (iI start)), some (.int (iI other)), none] [] h Q
  refine vs_ok 3 ?_
  rw [show ((gRes 21).drop 0).take 3 = [.aload 0, .getfield 1002, .iload 1] from rfl]
  simp (disch := omega) only [vs_getfield, vs_aload0, vs_iload1, vs_nil, gv_0, gv_1, gv_2, gv_3, pv_0, pv_1, va_rf_s, Nat.reduceDiv, Nat.reduceMod, Nat.reduceAdd, Nat.reduceMul, Int.reduceToNat, true_and, and_true, and_self, cP_eq, cP_ne, cP_lt, cP_ge, cP_gt, cP_le, eL_i, eL_l, eL_r, eL_n, Option.toList_none, Option.toList_some, List.nil_append, List.cons_append, kkI, llI, nnI, rrI, jjI, kkJ, llJ, nnJ, rrJ, iiJ, zIIs, zJJs, nEF, nET, and_false, false_and, jmin, jmax, catS_n, catS_i, catS_r, catS_l, Nat.reduceLeDiff, j1eq1, n21, jt0, jt1, Bool.false_eq_true, Classical.not_not, true_or, or_true, false_or, or_false, true_imp_iff, false_imp_iff, not_true_eq_false, not_false_eq_true, jif0, jif1, jifb, ltT, ltF, leT, leF, eqT, eqF, jlt, jle, jeq, jlt0, jle0, jeq0, jge0, jgt0, jinB, jnat, clt, cle, ceq, cgt, cge, lI_add, lI_sub, lI_mul, jadd, jsub, jmul, jneg, jtol, b010, b011, pv_2t, Int.toNat_natCast, Option.some.injEq, exists_eq_left', if_true, if_false, N]
  refine PW.iv rfl rfl rfl nP.1.1 nP.1.2 (le_b rfl) (le_b rfl) ?_
  refine t_makeRoom oP k1 k2 hs k5 (fun i hi => (k6 i hi).2) (fun z => ⟨rfl, ⟨rfl, rfl⟩, ?_⟩) (fun z g1 f1 m3 m4 m5 m6 m7 => ⟨rfl, ⟨f1.1.2.2.1, rfl⟩, ?_⟩)
  · rw [if_pos z] at hq
    refine vs_ok 4 ?_
    rw [show ((gRes 21).drop 4).take 4 = [.istore 3, .iload 3, .iconst (-1), .if_icmp .eq 25] from rfl]
    simp (disch := omega) only [vs_iconst, vs_if_icmp, vs_iload3, vs_istore3n, vs_istore3i, vs_istore3r, vs_istore3l, vs_nil, gv_0, gv_1, gv_2, gv_3, pv_0, pv_1, va_rf_s, Nat.reduceDiv, Nat.reduceMod, Nat.reduceAdd, Nat.reduceMul, Int.reduceToNat, true_and, and_true, and_self, cP_eq, cP_ne, cP_lt, cP_ge, cP_gt, cP_le, eL_i, eL_l, eL_r, eL_n, Option.toList_none, Option.toList_some, List.nil_append, List.cons_append, kkI, llI, nnI, rrI, jjI, kkJ, llJ, nnJ, rrJ, iiJ, zIIs, zJJs, nEF, nET, and_false, false_and, jmin, jmax, catS_n, catS_i, catS_r, catS_l, Nat.reduceLeDiff, j1eq1, n21, jt0, jt1, Bool.false_eq_true, Classical.not_not, true_or, or_true, false_or, or_false, true_imp_iff, false_imp_iff, not_true_eq_false, not_false_eq_true, jif0, jif1, jifb, ltT, ltF, leT, leF, eqT, eqF, jlt, jle, jeq, jlt0, jle0, jeq0, jge0, jgt0, jinB, jnat, clt, cle, ceq, cgt, cge, lI_add, lI_sub, lI_mul, jadd, jsub, jmul, jneg, jtol, b010, b011, pv_2t, Int.toNat_natCast, Option.some.injEq, exists_eq_left', if_true, if_false]
    refine vs_ok 1 ?_
    rw [show ((gRes 21).drop 25).take 1 = [.return_] from rfl]
    simp (disch := omega) only [vs_return_, vs_nil, gv_0, gv_1, gv_2, gv_3, pv_0, pv_1, va_rf_s, Nat.reduceDiv, Nat.reduceMod, Nat.reduceAdd, Nat.reduceMul, Int.reduceToNat, true_and, and_true, and_self, cP_eq, cP_ne, cP_lt, cP_ge, cP_gt, cP_le, eL_i, eL_l, eL_r, eL_n, Option.toList_none, Option.toList_some, List.nil_append, List.cons_append, kkI, llI, nnI, rrI, jjI, kkJ, llJ, nnJ, rrJ, iiJ, zIIs, zJJs, nEF, nET, and_false, false_and, jmin, jmax, catS_n, catS_i, catS_r, catS_l, Nat.reduceLeDiff, j1eq1, n21, jt0, jt1, Bool.false_eq_true, Classical.not_not, true_or, or_true, false_or, or_false, true_imp_iff, false_imp_iff, not_true_eq_false, not_false_eq_true, jif0, jif1, jifb, ltT, ltF, leT, leF, eqT, eqF, jlt, jle, jeq, jlt0, jle0, jeq0, jge0, jgt0, jinB, jnat, clt, cle, ceq, cgt, cge, lI_add, lI_sub, lI_mul, jadd, jsub, jmul, jneg, jtol, b010, b011, pv_2t, Int.toNat_natCast, Option.some.injEq, exists_eq_left', if_true, if_false, show gRc 21 = 0 from rfl]
    exact hq h fi.rf ⟨⟨k1, k2, k3, k4⟩, k5, k6, k7, k8⟩
  · rw [if_neg (by omega)] at hq
    have s99 := (k6 99 (by omega)).1
    have hS : (if kp < 100 then kp else sl 99 : Nat) < 100 := by split <;> omega
    generalize (if kp < 100 then kp else sl 99 : Nat) = S at *
    have r1 := f1.1.2.2.2.2.2.1
    have o1 := ho.fi f1
    have N1 := fsF o1
    have oP1 := o1.2.2.2.2.2
    have nP1 := paF oP1
    have x1 : ∀ i, i < 61 → X i ≤ 64 ∧ zI g1 (x + 6) i = iI (X i) := fun i hi => by rw [r1 _ (by omega)]; exact hx i hi
    have y1 : ∀ i, i < 61 → Y i ≤ 64 ∧ zI g1 (x + 7) i = iI (Y i) := fun i hi => by rw [r1 _ (by omega)]; exact hy i hi
    refine vs_ok 4 ?_
    rw [show ((gRes 21).drop 4).take 4 = [.istore 3, .iload 3, .iconst (-1), .if_icmp .eq 25] from rfl]
    simp (disch := omega) only [vs_iconst, vs_if_icmp, vs_iload3, vs_istore3n, vs_istore3i, vs_istore3r, vs_istore3l, vs_nil, gv_0, gv_1, gv_2, gv_3, pv_0, pv_1, va_rf_s, Nat.reduceDiv, Nat.reduceMod, Nat.reduceAdd, Nat.reduceMul, Int.reduceToNat, true_and, and_true, and_self, cP_eq, cP_ne, cP_lt, cP_ge, cP_gt, cP_le, eL_i, eL_l, eL_r, eL_n, Option.toList_none, Option.toList_some, List.nil_append, List.cons_append, kkI, llI, nnI, rrI, jjI, kkJ, llJ, nnJ, rrJ, iiJ, zIIs, zJJs, nEF, nET, and_false, false_and, jmin, jmax, catS_n, catS_i, catS_r, catS_l, Nat.reduceLeDiff, j1eq1, n21, jt0, jt1, Bool.false_eq_true, Classical.not_not, true_or, or_true, false_or, or_false, true_imp_iff, false_imp_iff, not_true_eq_false, not_false_eq_true, jif0, jif1, jifb, ltT, ltF, leT, leF, eqT, eqF, jlt, jle, jeq, jlt0, jle0, jeq0, jge0, jgt0, jinB, jnat, clt, cle, ceq, cgt, cge, lI_add, lI_sub, lI_mul, jadd, jsub, jmul, jneg, jtol, b010, b011, pv_2t, Int.toNat_natCast, Option.some.injEq, exists_eq_left', if_true, if_false]
    refine vs_ok 7 ?_
    rw [show ((gRes 21).drop 8).take 7 = [.aload 0, .getfield 1002, .iload 3, .iconst 0, .aload 0, .getfield 1022, .iload 1] from rfl]
    simp (disch := omega) only [vs_iconst, vs_getfield, vs_aload0, vs_iload1, vs_iload3, vs_nil, gv_0, gv_1, gv_2, gv_3, pv_0, pv_1, va_rf_s, Nat.reduceDiv, Nat.reduceMod, Nat.reduceAdd, Nat.reduceMul, Int.reduceToNat, true_and, and_true, and_self, cP_eq, cP_ne, cP_lt, cP_ge, cP_gt, cP_le, eL_i, eL_l, eL_r, eL_n, Option.toList_none, Option.toList_some, List.nil_append, List.cons_append, kkI, llI, nnI, rrI, jjI, kkJ, llJ, nnJ, rrJ, iiJ, zIIs, zJJs, nEF, nET, and_false, false_and, jmin, jmax, catS_n, catS_i, catS_r, catS_l, Nat.reduceLeDiff, j1eq1, n21, jt0, jt1, Bool.false_eq_true, Classical.not_not, true_or, or_true, false_or, or_false, true_imp_iff, false_imp_iff, not_true_eq_false, not_false_eq_true, jif0, jif1, jifb, ltT, ltF, leT, leF, eqT, eqF, jlt, jle, jeq, jlt0, jle0, jeq0, jge0, jgt0, jinB, jnat, clt, cle, ceq, cgt, cge, lI_add, lI_sub, lI_mul, jadd, jsub, jmul, jneg, jtol, b010, b011, pv_2t, Int.toNat_natCast, Option.some.injEq, exists_eq_left', if_true, if_false, N1]
    refine PW.iv rfl rfl rfl nP1.1.1 nP1.1.2 (le_b rfl) (le_b rfl) ?_
    refine t_putFaces (a := x + 6) (sl := S) (fr0 := 0) (tm := X) (fc := fc) oP1 N1.2.2.1.2 (by omega) x1 (fun j hj => by rw [r1 _ (by omega)]; exact k7 j hj) ⟨hS, by omega, hs⟩ (by omega) fun g2 f2 c2 => ⟨rfl, ⟨f2.1.2.2.1, rfl⟩, ?_⟩
    have r2 := f2.1.2.2.2.2.2.1
    have o2 := o1.fi f2
    have N2 := fsF o2
    have oP2 := o2.2.2.2.2.2
    have nP2 := paF oP2
    have y2 : ∀ i, i < 61 → Y i ≤ 64 ∧ zI g2 (x + 7) i = iI (Y i) := fun i hi => by rw [r2 _ (by omega)]; exact y1 i hi
    have p2 : zI g2 x 5 = iI p := by rw [r2 _ (by omega), r1 _ (by omega)]; exact h5
    refine vs_ok 8 ?_
    rw [show ((gRes 21).drop 16).take 8 = [.aload 0, .getfield 1002, .iload 3, .aload 0, .getfield 1050, .aload 0, .getfield 1032, .iload 2] from rfl]
    simp (disch := omega) only [vs_getfield, vs_aload0, vs_iload2, vs_iload3, vs_nil, gv_0, gv_1, gv_2, gv_3, pv_0, pv_1, va_rf_s, Nat.reduceDiv, Nat.reduceMod, Nat.reduceAdd, Nat.reduceMul, Int.reduceToNat, true_and, and_true, and_self, cP_eq, cP_ne, cP_lt, cP_ge, cP_gt, cP_le, eL_i, eL_l, eL_r, eL_n, Option.toList_none, Option.toList_some, List.nil_append, List.cons_append, kkI, llI, nnI, rrI, jjI, kkJ, llJ, nnJ, rrJ, iiJ, zIIs, zJJs, nEF, nET, and_false, false_and, jmin, jmax, catS_n, catS_i, catS_r, catS_l, Nat.reduceLeDiff, j1eq1, n21, jt0, jt1, Bool.false_eq_true, Classical.not_not, true_or, or_true, false_or, or_false, true_imp_iff, false_imp_iff, not_true_eq_false, not_false_eq_true, jif0, jif1, jifb, ltT, ltF, leT, leF, eqT, eqF, jlt, jle, jeq, jlt0, jle0, jeq0, jge0, jgt0, jinB, jnat, clt, cle, ceq, cgt, cge, lI_add, lI_sub, lI_mul, jadd, jsub, jmul, jneg, jtol, b010, b011, pv_2t, Int.toNat_natCast, Option.some.injEq, exists_eq_left', if_true, if_false, N2, p2]
    refine PW.iv rfl rfl rfl nP2.1.1 nP2.1.2 (le_b rfl) (le_b rfl) ?_
    refine t_putFaces (a := x + 7) (sl := S) (fr0 := p) (tm := Y) oP2 N2.2.2.2.1.2 (by omega) y2 c2 ⟨hS, by omega, hot⟩ (by omega) fun g3 f3 c3 => ⟨rfl, ⟨f3.1.2.2.1, rfl⟩, ?_⟩
    have r3 := f3.1.2.2.2.2.2.1
    refine vs_ok 1 ?_
    rw [show ((gRes 21).drop 25).take 1 = [.return_] from rfl]
    simp (disch := omega) only [vs_return_, vs_nil, gv_0, gv_1, gv_2, gv_3, pv_0, pv_1, va_rf_s, Nat.reduceDiv, Nat.reduceMod, Nat.reduceAdd, Nat.reduceMul, Int.reduceToNat, true_and, and_true, and_self, cP_eq, cP_ne, cP_lt, cP_ge, cP_gt, cP_le, eL_i, eL_l, eL_r, eL_n, Option.toList_none, Option.toList_some, List.nil_append, List.cons_append, kkI, llI, nnI, rrI, jjI, kkJ, llJ, nnJ, rrJ, iiJ, zIIs, zJJs, nEF, nET, and_false, false_and, jmin, jmax, catS_n, catS_i, catS_r, catS_l, Nat.reduceLeDiff, j1eq1, n21, jt0, jt1, Bool.false_eq_true, Classical.not_not, true_or, or_true, false_or, or_false, true_imp_iff, false_imp_iff, not_true_eq_false, not_false_eq_true, jif0, jif1, jifb, ltT, ltF, leT, leF, eqT, eqF, jlt, jle, jeq, jlt0, jle0, jeq0, jge0, jgt0, jinB, jnat, clt, cle, ceq, cgt, cge, lI_add, lI_sub, lI_mul, jadd, jsub, jmul, jneg, jtol, b010, b011, pv_2t, Int.toNat_natCast, Option.some.injEq, exists_eq_left', if_true, if_false, show gRc 21 = 0 from rfl]
    refine hq g3 ((f1.wk fun q z => by omega).tr ((f2.wk fun q z => by omega).tr (f3.wk fun q z => by omega))) ⟨⟨?_, by show min (kp + 1) 100 ≤ 100; omega, ?_, ?_⟩, fun i hi => ⟨shF_b (fun j hj => (k5 j hj).1) hs hi, ?_⟩, fun i hi => ⟨?_, ?_⟩, c3, ?_⟩
    · rw [r3 _ (by omega), r2 _ (by omega)]; exact m3
    · rw [r3 _ (by omega), r2 _ (by omega), m4]; exact k3
    · rw [r3 _ (by omega), r2 _ (by omega), m5]; exact k4
    · rw [r3 _ (by omega), r2 _ (by omega)]; exact m6 i hi
    · have := shF_b (st := sl) (a := atF st start kp) (kp := min (kp + 1) 100) (v := S) (B := 99) (fun j hj => by have := (k6 j hj).1; omega) (by omega) hi
      show shF sl (atF st start kp) (min (kp + 1) 100) S i < 100
      omega
    · rw [r3 _ (by omega), r2 _ (by omega)]; exact m7 i hi
    · rw [r3 _ (by omega), r2 _ (by omega), r1 _ (by omega)]; exact k8
/-- a start counts, if the other one is in turn and all FACES are in reach -/
abbrev inP (p q ls least : Nat) (X Y : Nat → Nat) (s : Nat) : Prop := least + s ≤ ls ∧ ls - s + grF Y 61 ≤ 60 ∧ (p ≠ q ∨ s < ls - s ∨ s = ls - s ∧ ahF X Y 61 0 = true)
def afS (p q ls least : Nat) (X Y : Nat → Nat) : Nat → Nat → KpT → KpT
  | 0, _, K => K
  | k + 1, s, K => afS p q ls least X Y k (s + 1) (if inP p q ls least X Y s then kpF p X Y s (ls - s) (K.1, K.2.1, K.2.2.1, K.2.2.2.1, K.2.2.2.2 + 1) else K)
theorem grF_le (tm : Nat → Nat) : ∀ k, grF tm k ≤ k
  | 0 => Nat.le_refl _
  | k + 1 => by
    have := grF_le tm k
    unfold grF
    split <;> omega
/-- what addFound does to what is kept -/
def afF (p q ls least : Nat) (X Y : Nat → Nat) (K : KpT) : KpT := afS p q ls least X Y (60 - grF X 61 + 1 - least) least K
theorem t_addFound {d : Nat} {h : Hp} {x p q ls least : Nat} {K : KpT} {X Y : Nat → Nat} {Q : Nat → Option Value → Hp → Prop} (ho : fsO h x) (h5 : zI h x 5 = iI p) (h6 : zI h x 6 = iI q) (h7 : zI h x 7 = iI least) (h8 : zI h x 8 = iI ls) (hk : pkS h x p q K) (hx : ∀ i, i < 61 → X i ≤ 64 ∧ zI h (x + 6) i = iI (X i)) (hy : ∀ i, i < 61 → Y i ≤ 64 ∧ zI h (x + 7) i = iI (Y i)) (hls : ls ≤ 120) (hle : least ≤ 60) (sx : smN X 61 = p) (sy : smN Y 61 = q) (hpq : p + q ≤ 65)
    (hq : ∀ g, fi (fun q => x ≤ q ∧ q ≤ x + 4) h g → (∀ i, i ≠ 12 → zI g x i = zI h x i) → pkS g x p q (afF p q ls least X Y K) → Q 0 none g) : PR (d + 2) m_FaceSearch_addFound [.ref x] h Q := by
  have N := fsF ho
  have gx := grF_le X 61
  have gy := grF_le Y 61
  have gX60 : grF X 61 ≤ 60 := by
    have : ∀ k, 1 ≤ k → grF X k ≤ k - 1 := fun k => by
      induction k with
      | zero => intro h; omega
      | succ k ih =>
        intro _
        unfold grF
        split
        · omega
        · cases k with
          | zero => show 0 ≤ _; omega
          | succ k => have := ih (by omega); omega
    exact this 61 (by omega)
  show PW (d + 2) 20 0 [some (.ref x), none, none, none, none, none, none] [] h Q
  unfold afF at hq
  generalize hTX : grF X 61 = TX at *
  generalize hTY : grF Y 61 = TY at *
  have lp : ∀ (k s : Nat) (K : KpT) (g : Hp) (o5 o6 : Option Value), k + s = max (60 - TX + 1) least → fi (fun q => x ≤ q ∧ q ≤ x + 4) h g → (∀ i, i ≠ 12 → zI g x i = zI h x i) → pkS g x p q K → (∀ g, fi (fun q => x ≤ q ∧ q ≤ x + 4) h g → (∀ i, i ≠ 12 → zI g x i = zI h x i) → pkS g x p q (afS p q ls least X Y k s K) → Q 0 none g) → least ≤ s → PW (d + 2) 20 14 [some (.ref x), some (.int (iI TX)), some (.int (iI TY)), some (.int (iI (if ahF X Y 61 0 = true then 1 else 0))), some (.int (iI s)), o5, o6] [] g Q := by
    intro k
    induction k with
    | zero =>
      intro s K g o5 o6 hks f e hk hq hs
      refine vs_ok 5 ?_
      rw [show ((gRes 20).drop 14).take 5 = [.iload 4, .iconst 60, .iload 1, .isub, .if_icmp .gt 64] from rfl]
      simp (disch := omega) only [vs_isub, vs_iconst, vs_if_icmp, vs_iload1, vs_iload4, vs_nil, gv_0, gv_1, gv_2, gv_3, pv_0, pv_1, va_rf_s, Nat.reduceDiv, Nat.reduceMod, Nat.reduceAdd, Nat.reduceMul, Int.reduceToNat, true_and, and_true, and_self, cP_eq, cP_ne, cP_lt, cP_ge, cP_gt, cP_le, eL_i, eL_l, eL_r, eL_n, Option.toList_none, Option.toList_some, List.nil_append, List.cons_append, kkI, llI, nnI, rrI, jjI, kkJ, llJ, nnJ, rrJ, iiJ, zIIs, zJJs, nEF, nET, and_false, false_and, jmin, jmax, catS_n, catS_i, catS_r, catS_l, Nat.reduceLeDiff, j1eq1, n21, jt0, jt1, Bool.false_eq_true, Classical.not_not, true_or, or_true, false_or, or_false, true_imp_iff, false_imp_iff, not_true_eq_false, not_false_eq_true, jif0, jif1, jifb, ltT, ltF, leT, leF, eqT, eqF, jlt, jle, jeq, jlt0, jle0, jeq0, jge0, jgt0, jinB, jnat, clt, cle, ceq, cgt, cge, lI_add, lI_sub, lI_mul, jadd, jsub, jmul, jneg, jtol, b010, b011, pv_2t, Int.toNat_natCast, Option.some.injEq, exists_eq_left', if_true, if_false]
      refine vs_ok 1 ?_
      rw [show ((gRes 20).drop 64).take 1 = [.return_] from rfl]
      simp (disch := omega) only [vs_return_, vs_nil, gv_0, gv_1, gv_2, gv_3, pv_0, pv_1, va_rf_s, Nat.reduceDiv, Nat.reduceMod, Nat.reduceAdd, Nat.reduceMul, Int.reduceToNat, true_and, and_true, and_self, cP_eq, cP_ne, cP_lt, cP_ge, cP_gt, cP_le, eL_i, eL_l, eL_r, eL_n, Option.toList_none, Option.toList_some, List.nil_append, List.cons_append, kkI, llI, nnI, rrI, jjI, kkJ, llJ, nnJ, rrJ, iiJ, zIIs, zJJs, nEF, nET, and_false, false_and, jmin, jmax, catS_n, catS_i, catS_r, catS_l, Nat.reduceLeDiff, j1eq1, n21, jt0, jt1, Bool.false_eq_true, Classical.not_not, true_or, or_true, false_or, or_false, true_imp_iff, false_imp_iff, not_true_eq_false, not_false_eq_true, jif0, jif1, jifb, ltT, ltF, leT, leF, eqT, eqF, jlt, jle, jeq, jlt0, jle0, jeq0, jge0, jgt0, jinB, jnat, clt, cle, ceq, cgt, cge, lI_add, lI_sub, lI_mul, jadd, jsub, jmul, jneg, jtol, b010, b011, pv_2t, Int.toNat_natCast, Option.some.injEq, exists_eq_left', if_true, if_false, show gRc 20 = 0 from rfl]
      exact hq g f e hk
    | succ k ih =>
      intro s K g o5 o6 hks f e hk hq hs
      have go := ho.fi f
      have Ng := fsF go
      have r := f.1.2.2.2.2.2.1
      have g5 : zI g x 5 = iI p := by rw [e 5 (by omega)]; exact h5
      have g6 : zI g x 6 = iI q := by rw [e 6 (by omega)]; exact h6
      have g7 : zI g x 7 = iI least := by rw [e 7 (by omega)]; exact h7
      have g8 : zI g x 8 = iI ls := by rw [e 8 (by omega)]; exact h8
      have ef : afS p q ls least X Y (k + 1) s K = afS p q ls least X Y k (s + 1) (if inP p q ls least X Y s then kpF p X Y s (ls - s) (K.1, K.2.1, K.2.2.1, K.2.2.2.1, K.2.2.2.2 + 1) else K) := rfl
      rw [ef] at hq
      have no : ¬ inP p q ls least X Y s → ∀ o6, PW (d + 2) 20 62 [some (.ref x), some (.int (iI TX)), some (.int (iI TY)), some (.int (iI (if ahF X Y 61 0 = true then 1 else 0))), some (.int (iI s)), some (.int (iI ((ls : Int) - (s : Int)))), o6] [] g Q := fun c o6 => by
        rw [if_neg c] at hq
        refine vs_ok 2 ?_
        rw [show ((gRes 20).drop 62).take 2 = [.iinc 4 1, .goto 14] from rfl]
        simp (disch := omega) only [vs_goto, vs_iinc4n, vs_iinc4i, vs_iinc4r, vs_iinc4l, vs_nil, gv_0, gv_1, gv_2, gv_3, pv_0, pv_1, va_rf_s, Nat.reduceDiv, Nat.reduceMod, Nat.reduceAdd, Nat.reduceMul, Int.reduceToNat, true_and, and_true, and_self, cP_eq, cP_ne, cP_lt, cP_ge, cP_gt, cP_le, eL_i, eL_l, eL_r, eL_n, Option.toList_none, Option.toList_some, List.nil_append, List.cons_append, kkI, llI, nnI, rrI, jjI, kkJ, llJ, nnJ, rrJ, iiJ, zIIs, zJJs, nEF, nET, and_false, false_and, jmin, jmax, catS_n, catS_i, catS_r, catS_l, Nat.reduceLeDiff, j1eq1, n21, jt0, jt1, Bool.false_eq_true, Classical.not_not, true_or, or_true, false_or, or_false, true_imp_iff, false_imp_iff, not_true_eq_false, not_false_eq_true, jif0, jif1, jifb, ltT, ltF, leT, leF, eqT, eqF, jlt, jle, jeq, jlt0, jle0, jeq0, jge0, jgt0, jinB, jnat, clt, cle, ceq, cgt, cge, lI_add, lI_sub, lI_mul, jadd, jsub, jmul, jneg, jtol, b010, b011, pv_2t, Int.toNat_natCast, Option.some.injEq, exists_eq_left', if_true, if_false]
        exact ih (s + 1) K g _ _ (by omega) f e hk hq (by omega)
      -- in turn or not
      have p40 : ∀ v : Nat, v ≤ 1 → (v ≠ 0 ↔ (p ≠ q ∨ (s : Int) < (ls : Int) - s ∨ (s : Int) = (ls : Int) - s ∧ ahF X Y 61 0 = true)) → PW (d + 2) 20 40 [some (.ref x), some (.int (iI TX)), some (.int (iI TY)), some (.int (iI (if ahF X Y 61 0 = true then 1 else 0))), some (.int (iI s)), some (.int (iI ((ls : Int) - (s : Int)))), o6] [.int (iI v)] g Q := fun v hv hvv => by
        by_cases c1 : (least : Int) ≤ (ls : Int) - s
        · obtain ⟨o, hoo⟩ : ∃ o : Nat, (ls : Int) - s = (o : Int) := ⟨ls - s, by omega⟩
          rw [hoo] at no hvv ⊢
          by_cases c2 : o + TY ≤ 60
          · by_cases c3 : v = 0
            · refine vs_ok 12 ?_
              rw [show ((gRes 20).drop 40).take 12 = [.istore 6, .iload 5, .aload 0, .getfield 1070, .if_icmp .lt 62, .iload 5, .iload 2, .iadd, .iconst 60, .if_icmp .gt 62, .iload 6, .ifCond .eq 62] from rfl]
              simp (disch := omega) only [vs_iadd, vs_iconst, vs_if_icmp, vs_ifCond, vs_getfield, vs_aload0, vs_iload2, vs_iload5, vs_iload6, vs_istore6n, vs_istore6i, vs_istore6r, vs_istore6l, vs_nil, gv_0, gv_1, gv_2, gv_3, pv_0, pv_1, va_rf_s, Nat.reduceDiv, Nat.reduceMod, Nat.reduceAdd, Nat.reduceMul, Int.reduceToNat, true_and, and_true, and_self, cP_eq, cP_ne, cP_lt, cP_ge, cP_gt, cP_le, eL_i, eL_l, eL_r, eL_n, Option.toList_none, Option.toList_some, List.nil_append, List.cons_append, kkI, llI, nnI, rrI, jjI, kkJ, llJ, nnJ, rrJ, iiJ, zIIs, zJJs, nEF, nET, and_false, false_and, jmin, jmax, catS_n, catS_i, catS_r, catS_l, Nat.reduceLeDiff, j1eq1, n21, jt0, jt1, Bool.false_eq_true, Classical.not_not, true_or, or_true, false_or, or_false, true_imp_iff, false_imp_iff, not_true_eq_false, not_false_eq_true, jif0, jif1, jifb, ltT, ltF, leT, leF, eqT, eqF, jlt, jle, jeq, jlt0, jle0, jeq0, jge0, jgt0, jinB, jnat, clt, cle, ceq, cgt, cge, lI_add, lI_sub, lI_mul, jadd, jsub, jmul, jneg, jtol, b010, b011, pv_2t, Int.toNat_natCast, Option.some.injEq, exists_eq_left', if_true, if_false, Ng, g7]
              refine no (fun z => ?_) _
              have := z.2.2
              rw [show ls - s = o by omega] at this
              refine hvv.mpr ?_ c3
              rcases this with a | a | a
              · exact Or.inl a
              · exact Or.inr (Or.inl (by omega))
              · exact Or.inr (Or.inr ⟨by omega, a.2⟩)
            · have hin : inP p q ls least X Y s := by
                refine ⟨by omega, by rw [hTY]; omega, ?_⟩
                rw [show ls - s = o by omega]
                have := hvv.mp c3
                rcases this with a | a | a
                · exact Or.inl a
                · exact Or.inr (Or.inl (by omega))
                · exact Or.inr (Or.inr ⟨by omega, a.2⟩)
              rw [if_pos hin, show ls - s = o by omega] at hq
              have e1 : (K.2.2.2.2 : Int) + 1 = ((K.2.2.2.2 + 1 : Nat) : Int) := by omega
              refine vs_ok 12 ?_
              rw [show ((gRes 20).drop 40).take 12 = [.istore 6, .iload 5, .aload 0, .getfield 1070, .if_icmp .lt 62, .iload 5, .iload 2, .iadd, .iconst 60, .if_icmp .gt 62, .iload 6, .ifCond .eq 62] from rfl]
              simp (disch := omega) only [vs_iadd, vs_iconst, vs_if_icmp, vs_ifCond, vs_getfield, vs_aload0, vs_iload2, vs_iload5, vs_iload6, vs_istore6n, vs_istore6i, vs_istore6r, vs_istore6l, vs_nil, gv_0, gv_1, gv_2, gv_3, pv_0, pv_1, va_rf_s, Nat.reduceDiv, Nat.reduceMod, Nat.reduceAdd, Nat.reduceMul, Int.reduceToNat, true_and, and_true, and_self, cP_eq, cP_ne, cP_lt, cP_ge, cP_gt, cP_le, eL_i, eL_l, eL_r, eL_n, Option.toList_none, Option.toList_some, List.nil_append, List.cons_append, kkI, llI, nnI, rrI, jjI, kkJ, llJ, nnJ, rrJ, iiJ, zIIs, zJJs, nEF, nET, and_false, false_and, jmin, jmax, catS_n, catS_i, catS_r, catS_l, Nat.reduceLeDiff, j1eq1, n21, jt0, jt1, Bool.false_eq_true, Classical.not_not, true_or, or_true, false_or, or_false, true_imp_iff, false_imp_iff, not_true_eq_false, not_false_eq_true, jif0, jif1, jifb, ltT, ltF, leT, leF, eqT, eqF, jlt, jle, jeq, jlt0, jle0, jeq0, jge0, jgt0, jinB, jnat, clt, cle, ceq, cgt, cge, lI_add, lI_sub, lI_mul, jadd, jsub, jmul, jneg, jtol, b010, b011, pv_2t, Int.toNat_natCast, Option.some.injEq, exists_eq_left', if_true, if_false, Ng, g7]
              refine vs_ok 6 ?_
              rw [show ((gRes 20).drop 52).take 6 = [.aload 0, .dup, .getfield 1120, .iconst 1, .iadd, .putfield 1120] from rfl]
              simp (disch := omega) only [vs_iadd, vs_iconst, vs_getfield, vs_putfield, vs_dupi, vs_dupr, vs_aload0, vs_nil, gv_0, gv_1, gv_2, gv_3, pv_0, pv_1, va_rf_s, Nat.reduceDiv, Nat.reduceMod, Nat.reduceAdd, Nat.reduceMul, Int.reduceToNat, true_and, and_true, and_self, cP_eq, cP_ne, cP_lt, cP_ge, cP_gt, cP_le, eL_i, eL_l, eL_r, eL_n, Option.toList_none, Option.toList_some, List.nil_append, List.cons_append, kkI, llI, nnI, rrI, jjI, kkJ, llJ, nnJ, rrJ, iiJ, zIIs, zJJs, nEF, nET, and_false, false_and, jmin, jmax, catS_n, catS_i, catS_r, catS_l, Nat.reduceLeDiff, j1eq1, n21, jt0, jt1, Bool.false_eq_true, Classical.not_not, true_or, or_true, false_or, or_false, true_imp_iff, false_imp_iff, not_true_eq_false, not_false_eq_true, jif0, jif1, jifb, ltT, ltF, leT, leF, eqT, eqF, jlt, jle, jeq, jlt0, jle0, jeq0, jge0, jgt0, jinB, jnat, clt, cle, ceq, cgt, cge, lI_add, lI_sub, lI_mul, jadd, jsub, jmul, jneg, jtol, b010, b011, pv_2t, Int.toNat_natCast, Option.some.injEq, exists_eq_left', if_true, if_false, Ng, hk.2.2.2.2, e1]
              have f1 : fi (fun q => q = x) g (zsI g x 12 (iI (K.2.2.2.2 + 1 : Nat))) := fi_I rfl
              have z1 : ∀ i, i ≠ 12 → zI (zsI g x 12 (iI (K.2.2.2.2 + 1 : Nat))) x i = zI g x i := fun i hi => by rw [zI_s, if_neg (fun z => hi z.2)]
              have z12 : zI (zsI g x 12 (iI (K.2.2.2.2 + 1 : Nat))) x 12 = iI (K.2.2.2.2 + 1 : Nat) := by rw [zI_s, if_pos ⟨rfl, rfl⟩]
              generalize zsI g x 12 (iI (K.2.2.2.2 + 1 : Nat)) = g1 at *
              have r1 := f1.1.2.2.2.2.2.1
              have k1 : pkS g1 x p q (K.1, K.2.1, K.2.2.1, K.2.2.2.1, K.2.2.2.2 + 1) := by
                obtain ⟨y1, y2, y3, y4, y5⟩ := hk
                rw [pkS, r1 _ (by omega), r1 _ (by omega), r1 _ (by omega), r1 _ (by omega)]
                exact ⟨y1, y2, y3, y4, z12⟩
              have o1 := go.fi f1
              have N1 := fsF o1
              refine vs_ok 3 ?_
              rw [show ((gRes 20).drop 58).take 3 = [.aload 0, .iload 4, .iload 5] from rfl]
              simp (disch := omega) only [vs_aload0, vs_iload4, vs_iload5, vs_nil, gv_0, gv_1, gv_2, gv_3, pv_0, pv_1, va_rf_s, Nat.reduceDiv, Nat.reduceMod, Nat.reduceAdd, Nat.reduceMul, Int.reduceToNat, true_and, and_true, and_self, cP_eq, cP_ne, cP_lt, cP_ge, cP_gt, cP_le, eL_i, eL_l, eL_r, eL_n, Option.toList_none, Option.toList_some, List.nil_append, List.cons_append, kkI, llI, nnI, rrI, jjI, kkJ, llJ, nnJ, rrJ, iiJ, zIIs, zJJs, nEF, nET, and_false, false_and, jmin, jmax, catS_n, catS_i, catS_r, catS_l, Nat.reduceLeDiff, j1eq1, n21, jt0, jt1, Bool.false_eq_true, Classical.not_not, true_or, or_true, false_or, or_false, true_imp_iff, false_imp_iff, not_true_eq_false, not_false_eq_true, jif0, jif1, jifb, ltT, ltF, leT, leF, eqT, eqF, jlt, jle, jeq, jlt0, jle0, jeq0, jge0, jgt0, jinB, jnat, clt, cle, ceq, cgt, cge, lI_add, lI_sub, lI_mul, jadd, jsub, jmul, jneg, jtol, b010, b011, pv_2t, Int.toNat_natCast, Option.some.injEq, exists_eq_left', if_true, if_false]
              refine PW.iv rfl rfl rfl N1.1.1 N1.1.2.1 (le_b rfl) (le_b rfl) ?_
              refine t_keep o1 (by rw [z1 5 (by omega)]; exact g5) k1 (fun i hi => by rw [r1 _ (by omega), r _ (by omega)]; exact hx i hi) (fun i hi => by rw [r1 _ (by omega), r _ (by omega)]; exact hy i hi) (by omega) (by omega) sx sy hpq fun g2 f2 k2 => ⟨rfl, ⟨f2.1.2.2.1, rfl⟩, ?_⟩
              refine vs_ok 2 ?_
              rw [show ((gRes 20).drop 62).take 2 = [.iinc 4 1, .goto 14] from rfl]
              simp (disch := omega) only [vs_goto, vs_iinc4n, vs_iinc4i, vs_iinc4r, vs_iinc4l, vs_nil, gv_0, gv_1, gv_2, gv_3, pv_0, pv_1, va_rf_s, Nat.reduceDiv, Nat.reduceMod, Nat.reduceAdd, Nat.reduceMul, Int.reduceToNat, true_and, and_true, and_self, cP_eq, cP_ne, cP_lt, cP_ge, cP_gt, cP_le, eL_i, eL_l, eL_r, eL_n, Option.toList_none, Option.toList_some, List.nil_append, List.cons_append, kkI, llI, nnI, rrI, jjI, kkJ, llJ, nnJ, rrJ, iiJ, zIIs, zJJs, nEF, nET, and_false, false_and, jmin, jmax, catS_n, catS_i, catS_r, catS_l, Nat.reduceLeDiff, j1eq1, n21, jt0, jt1, Bool.false_eq_true, Classical.not_not, true_or, or_true, false_or, or_false, true_imp_iff, false_imp_iff, not_true_eq_false, not_false_eq_true, jif0, jif1, jifb, ltT, ltF, leT, leF, eqT, eqF, jlt, jle, jeq, jlt0, jle0, jeq0, jge0, jgt0, jinB, jnat, clt, cle, ceq, cgt, cge, lI_add, lI_sub, lI_mul, jadd, jsub, jmul, jneg, jtol, b010, b011, pv_2t, Int.toNat_natCast, Option.some.injEq, exists_eq_left', if_true, if_false]
              exact ih (s + 1) _ g2 _ _ (by omega) (f.tr ((f1.wk fun q z => by omega).tr (f2.wk fun q z => by omega))) (fun i hi => by rw [f2.1.2.2.2.2.2.1 x (by omega), z1 i hi, e i hi]) k2 hq (by omega)
          · refine vs_ok 10 ?_
            rw [show ((gRes 20).drop 40).take 10 = [.istore 6, .iload 5, .aload 0, .getfield 1070, .if_icmp .lt 62, .iload 5, .iload 2, .iadd, .iconst 60, .if_icmp .gt 62] from rfl]
            simp (disch := omega) only [vs_iadd, vs_iconst, vs_if_icmp, vs_getfield, vs_aload0, vs_iload2, vs_iload5, vs_istore6n, vs_istore6i, vs_istore6r, vs_istore6l, vs_nil, gv_0, gv_1, gv_2, gv_3, pv_0, pv_1, va_rf_s, Nat.reduceDiv, Nat.reduceMod, Nat.reduceAdd, Nat.reduceMul, Int.reduceToNat, true_and, and_true, and_self, cP_eq, cP_ne, cP_lt, cP_ge, cP_gt, cP_le, eL_i, eL_l, eL_r, eL_n, Option.toList_none, Option.toList_some, List.nil_append, List.cons_append, kkI, llI, nnI, rrI, jjI, kkJ, llJ, nnJ, rrJ, iiJ, zIIs, zJJs, nEF, nET, and_false, false_and, jmin, jmax, catS_n, catS_i, catS_r, catS_l, Nat.reduceLeDiff, j1eq1, n21, jt0, jt1, Bool.false_eq_true, Classical.not_not, true_or, or_true, false_or, or_false, true_imp_iff, false_imp_iff, not_true_eq_false, not_false_eq_true, jif0, jif1, jifb, ltT, ltF, leT, leF, eqT, eqF, jlt, jle, jeq, jlt0, jle0, jeq0, jge0, jgt0, jinB, jnat, clt, cle, ceq, cgt, cge, lI_add, lI_sub, lI_mul, jadd, jsub, jmul, jneg, jtol, b010, b011, pv_2t, Int.toNat_natCast, Option.some.injEq, exists_eq_left', if_true, if_false, Ng, g7]
            exact no (fun z => c2 (by have := z.2.1; rw [hTY] at this; omega)) _
        · refine vs_ok 5 ?_
          rw [show ((gRes 20).drop 40).take 5 = [.istore 6, .iload 5, .aload 0, .getfield 1070, .if_icmp .lt 62] from rfl]
          simp (disch := omega) only [vs_if_icmp, vs_getfield, vs_aload0, vs_iload5, vs_istore6n, vs_istore6i, vs_istore6r, vs_istore6l, vs_nil, gv_0, gv_1, gv_2, gv_3, pv_0, pv_1, va_rf_s, Nat.reduceDiv, Nat.reduceMod, Nat.reduceAdd, Nat.reduceMul, Int.reduceToNat, true_and, and_true, and_self, cP_eq, cP_ne, cP_lt, cP_ge, cP_gt, cP_le, eL_i, eL_l, eL_r, eL_n, Option.toList_none, Option.toList_some, List.nil_append, List.cons_append, kkI, llI, nnI, rrI, jjI, kkJ, llJ, nnJ, rrJ, iiJ, zIIs, zJJs, nEF, nET, and_false, false_and, jmin, jmax, catS_n, catS_i, catS_r, catS_l, Nat.reduceLeDiff, j1eq1, n21, jt0, jt1, Bool.false_eq_true, Classical.not_not, true_or, or_true, false_or, or_false, true_imp_iff, false_imp_iff, not_true_eq_false, not_false_eq_true, jif0, jif1, jifb, ltT, ltF, leT, leF, eqT, eqF, jlt, jle, jeq, jlt0, jle0, jeq0, jge0, jgt0, jinB, jnat, clt, cle, ceq, cgt, cge, lI_add, lI_sub, lI_mul, jadd, jsub, jmul, jneg, jtol, b010, b011, pv_2t, Int.toNat_natCast, Option.some.injEq, exists_eq_left', if_true, if_false, Ng, g7]
          exact no (fun z => c1 (by omega)) _
      refine vs_ok 5 ?_
      rw [show ((gRes 20).drop 14).take 5 = [.iload 4, .iconst 60, .iload 1, .isub, .if_icmp .gt 64] from rfl]
      simp (disch := omega) only [vs_isub, vs_iconst, vs_if_icmp, vs_iload1, vs_iload4, vs_nil, gv_0, gv_1, gv_2, gv_3, pv_0, pv_1, va_rf_s, Nat.reduceDiv, Nat.reduceMod, Nat.reduceAdd, Nat.reduceMul, Int.reduceToNat, true_and, and_true, and_self, cP_eq, cP_ne, cP_lt, cP_ge, cP_gt, cP_le, eL_i, eL_l, eL_r, eL_n, Option.toList_none, Option.toList_some, List.nil_append, List.cons_append, kkI, llI, nnI, rrI, jjI, kkJ, llJ, nnJ, rrJ, iiJ, zIIs, zJJs, nEF, nET, and_false, false_and, jmin, jmax, catS_n, catS_i, catS_r, catS_l, Nat.reduceLeDiff, j1eq1, n21, jt0, jt1, Bool.false_eq_true, Classical.not_not, true_or, or_true, false_or, or_false, true_imp_iff, false_imp_iff, not_true_eq_false, not_false_eq_true, jif0, jif1, jifb, ltT, ltF, leT, leF, eqT, eqF, jlt, jle, jeq, jlt0, jle0, jeq0, jge0, jgt0, jinB, jnat, clt, cle, ceq, cgt, cge, lI_add, lI_sub, lI_mul, jadd, jsub, jmul, jneg, jtol, b010, b011, pv_2t, Int.toNat_natCast, Option.some.injEq, exists_eq_left', if_true, if_false]
      refine vs_ok 5 ?_
      rw [show ((gRes 20).drop 19).take 5 = [.aload 0, .getfield 1080, .iload 4, .isub, .istore 5] from rfl]
      simp (disch := omega) only [vs_isub, vs_getfield, vs_aload0, vs_iload4, vs_istore5n, vs_istore5i, vs_istore5r, vs_istore5l, vs_nil, gv_0, gv_1, gv_2, gv_3, pv_0, pv_1, va_rf_s, Nat.reduceDiv, Nat.reduceMod, Nat.reduceAdd, Nat.reduceMul, Int.reduceToNat, true_and, and_true, and_self, cP_eq, cP_ne, cP_lt, cP_ge, cP_gt, cP_le, eL_i, eL_l, eL_r, eL_n, Option.toList_none, Option.toList_some, List.nil_append, List.cons_append, kkI, llI, nnI, rrI, jjI, kkJ, llJ, nnJ, rrJ, iiJ, zIIs, zJJs, nEF, nET, and_false, false_and, jmin, jmax, catS_n, catS_i, catS_r, catS_l, Nat.reduceLeDiff, j1eq1, n21, jt0, jt1, Bool.false_eq_true, Classical.not_not, true_or, or_true, false_or, or_false, true_imp_iff, false_imp_iff, not_true_eq_false, not_false_eq_true, jif0, jif1, jifb, ltT, ltF, leT, leF, eqT, eqF, jlt, jle, jeq, jlt0, jle0, jeq0, jge0, jgt0, jinB, jnat, clt, cle, ceq, cgt, cge, lI_add, lI_sub, lI_mul, jadd, jsub, jmul, jneg, jtol, b010, b011, pv_2t, Int.toNat_natCast, Option.some.injEq, exists_eq_left', if_true, if_false, Ng, g8]
      have yes : (p ≠ q ∨ (s : Int) < (ls : Int) - s ∨ (s : Int) = (ls : Int) - s ∧ ahF X Y 61 0 = true) → PW (d + 2) 20 37 [some (.ref x), some (.int (iI TX)), some (.int (iI TY)), some (.int (iI (if ahF X Y 61 0 = true then 1 else 0))), some (.int (iI s)), some (.int (iI ((ls : Int) - (s : Int)))), o6] [] g Q := fun z => by
        refine vs_ok 2 ?_
        rw [show ((gRes 20).drop 37).take 2 = [.iconst 1, .goto 40] from rfl]
        simp (disch := omega) only [vs_iconst, vs_goto, vs_nil, gv_0, gv_1, gv_2, gv_3, pv_0, pv_1, va_rf_s, Nat.reduceDiv, Nat.reduceMod, Nat.reduceAdd, Nat.reduceMul, Int.reduceToNat, true_and, and_true, and_self, cP_eq, cP_ne, cP_lt, cP_ge, cP_gt, cP_le, eL_i, eL_l, eL_r, eL_n, Option.toList_none, Option.toList_some, List.nil_append, List.cons_append, kkI, llI, nnI, rrI, jjI, kkJ, llJ, nnJ, rrJ, iiJ, zIIs, zJJs, nEF, nET, and_false, false_and, jmin, jmax, catS_n, catS_i, catS_r, catS_l, Nat.reduceLeDiff, j1eq1, n21, jt0, jt1, Bool.false_eq_true, Classical.not_not, true_or, or_true, false_or, or_false, true_imp_iff, false_imp_iff, not_true_eq_false, not_false_eq_true, jif0, jif1, jifb, ltT, ltF, leT, leF, eqT, eqF, jlt, jle, jeq, jlt0, jle0, jeq0, jge0, jgt0, jinB, jnat, clt, cle, ceq, cgt, cge, lI_add, lI_sub, lI_mul, jadd, jsub, jmul, jneg, jtol, b010, b011, pv_2t, Int.toNat_natCast, Option.some.injEq, exists_eq_left', if_true, if_false]
        exact p40 1 (by omega) ⟨fun _ => z, fun _ => by omega⟩
      have nos : ¬ (p ≠ q ∨ (s : Int) < (ls : Int) - s ∨ (s : Int) = (ls : Int) - s ∧ ahF X Y 61 0 = true) → PW (d + 2) 20 39 [some (.ref x), some (.int (iI TX)), some (.int (iI TY)), some (.int (iI (if ahF X Y 61 0 = true then 1 else 0))), some (.int (iI s)), some (.int (iI ((ls : Int) - (s : Int)))), o6] [] g Q := fun z => by
        refine vs_ok 1 ?_
        rw [show ((gRes 20).drop 39).take 1 = [.iconst 0] from rfl]
        simp (disch := omega) only [vs_iconst, vs_nil, gv_0, gv_1, gv_2, gv_3, pv_0, pv_1, va_rf_s, Nat.reduceDiv, Nat.reduceMod, Nat.reduceAdd, Nat.reduceMul, Int.reduceToNat, true_and, and_true, and_self, cP_eq, cP_ne, cP_lt, cP_ge, cP_gt, cP_le, eL_i, eL_l, eL_r, eL_n, Option.toList_none, Option.toList_some, List.nil_append, List.cons_append, kkI, llI, nnI, rrI, jjI, kkJ, llJ, nnJ, rrJ, iiJ, zIIs, zJJs, nEF, nET, and_false, false_and, jmin, jmax, catS_n, catS_i, catS_r, catS_l, Nat.reduceLeDiff, j1eq1, n21, jt0, jt1, Bool.false_eq_true, Classical.not_not, true_or, or_true, false_or, or_false, true_imp_iff, false_imp_iff, not_true_eq_false, not_false_eq_true, jif0, jif1, jifb, ltT, ltF, leT, leF, eqT, eqF, jlt, jle, jeq, jlt0, jle0, jeq0, jge0, jgt0, jinB, jnat, clt, cle, ceq, cgt, cge, lI_add, lI_sub, lI_mul, jadd, jsub, jmul, jneg, jtol, b010, b011, pv_2t, Int.toNat_natCast, Option.some.injEq, exists_eq_left', if_true, if_false]
        exact p40 0 (by omega) ⟨fun y => absurd rfl y, fun y => absurd y z⟩
      by_cases c1 : p = q
      · by_cases c2 : (s : Int) < (ls : Int) - s
        · refine vs_ok 8 ?_
          rw [show ((gRes 20).drop 24).take 8 = [.aload 0, .getfield 1050, .aload 0, .getfield 1060, .if_icmp .ne 37, .iload 4, .iload 5, .if_icmp .lt 37] from rfl]
          simp (disch := omega) only [vs_if_icmp, vs_getfield, vs_aload0, vs_iload4, vs_iload5, vs_nil, gv_0, gv_1, gv_2, gv_3, pv_0, pv_1, va_rf_s, Nat.reduceDiv, Nat.reduceMod, Nat.reduceAdd, Nat.reduceMul, Int.reduceToNat, true_and, and_true, and_self, cP_eq, cP_ne, cP_lt, cP_ge, cP_gt, cP_le, eL_i, eL_l, eL_r, eL_n, Option.toList_none, Option.toList_some, List.nil_append, List.cons_append, kkI, llI, nnI, rrI, jjI, kkJ, llJ, nnJ, rrJ, iiJ, zIIs, zJJs, nEF, nET, and_false, false_and, jmin, jmax, catS_n, catS_i, catS_r, catS_l, Nat.reduceLeDiff, j1eq1, n21, jt0, jt1, Bool.false_eq_true, Classical.not_not, true_or, or_true, false_or, or_false, true_imp_iff, false_imp_iff, not_true_eq_false, not_false_eq_true, jif0, jif1, jifb, ltT, ltF, leT, leF, eqT, eqF, jlt, jle, jeq, jlt0, jle0, jeq0, jge0, jgt0, jinB, jnat, clt, cle, ceq, cgt, cge, lI_add, lI_sub, lI_mul, jadd, jsub, jmul, jneg, jtol, b010, b011, pv_2t, Int.toNat_natCast, Option.some.injEq, exists_eq_left', if_true, if_false, Ng, g5, g6]
          exact yes (Or.inr (Or.inl c2))
        · by_cases c3 : (s : Int) = (ls : Int) - s
          · by_cases c4 : ahF X Y 61 0 = true
            · refine vs_ok 13 ?_
              rw [show ((gRes 20).drop 24).take 13 = [.aload 0, .getfield 1050, .aload 0, .getfield 1060, .if_icmp .ne 37, .iload 4, .iload 5, .if_icmp .lt 37, .iload 4, .iload 5, .if_icmp .ne 39, .iload 3, .ifCond .eq 39] from rfl]
              simp (disch := omega) only [vs_if_icmp, vs_ifCond, vs_getfield, vs_aload0, vs_iload3, vs_iload4, vs_iload5, vs_nil, gv_0, gv_1, gv_2, gv_3, pv_0, pv_1, va_rf_s, Nat.reduceDiv, Nat.reduceMod, Nat.reduceAdd, Nat.reduceMul, Int.reduceToNat, true_and, and_true, and_self, cP_eq, cP_ne, cP_lt, cP_ge, cP_gt, cP_le, eL_i, eL_l, eL_r, eL_n, Option.toList_none, Option.toList_some, List.nil_append, List.cons_append, kkI, llI, nnI, rrI, jjI, kkJ, llJ, nnJ, rrJ, iiJ, zIIs, zJJs, nEF, nET, and_false, false_and, jmin, jmax, catS_n, catS_i, catS_r, catS_l, Nat.reduceLeDiff, j1eq1, n21, jt0, jt1, Bool.false_eq_true, Classical.not_not, true_or, or_true, false_or, or_false, true_imp_iff, false_imp_iff, not_true_eq_false, not_false_eq_true, jif0, jif1, jifb, ltT, ltF, leT, leF, eqT, eqF, jlt, jle, jeq, jlt0, jle0, jeq0, jge0, jgt0, jinB, jnat, clt, cle, ceq, cgt, cge, lI_add, lI_sub, lI_mul, jadd, jsub, jmul, jneg, jtol, b010, b011, pv_2t, Int.toNat_natCast, Option.some.injEq, exists_eq_left', if_true, if_false, Ng, g5, g6, c4]
              have := yes (Or.inr (Or.inr ⟨c3, c4⟩))
              rw [if_pos c4] at this
              exact this
            · refine vs_ok 13 ?_
              rw [show ((gRes 20).drop 24).take 13 = [.aload 0, .getfield 1050, .aload 0, .getfield 1060, .if_icmp .ne 37, .iload 4, .iload 5, .if_icmp .lt 37, .iload 4, .iload 5, .if_icmp .ne 39, .iload 3, .ifCond .eq 39] from rfl]
              simp (disch := omega) only [vs_if_icmp, vs_ifCond, vs_getfield, vs_aload0, vs_iload3, vs_iload4, vs_iload5, vs_nil, gv_0, gv_1, gv_2, gv_3, pv_0, pv_1, va_rf_s, Nat.reduceDiv, Nat.reduceMod, Nat.reduceAdd, Nat.reduceMul, Int.reduceToNat, true_and, and_true, and_self, cP_eq, cP_ne, cP_lt, cP_ge, cP_gt, cP_le, eL_i, eL_l, eL_r, eL_n, Option.toList_none, Option.toList_some, List.nil_append, List.cons_append, kkI, llI, nnI, rrI, jjI, kkJ, llJ, nnJ, rrJ, iiJ, zIIs, zJJs, nEF, nET, and_false, false_and, jmin, jmax, catS_n, catS_i, catS_r, catS_l, Nat.reduceLeDiff, j1eq1, n21, jt0, jt1, Bool.false_eq_true, Classical.not_not, true_or, or_true, false_or, or_false, true_imp_iff, false_imp_iff, not_true_eq_false, not_false_eq_true, jif0, jif1, jifb, ltT, ltF, leT, leF, eqT, eqF, jlt, jle, jeq, jlt0, jle0, jeq0, jge0, jgt0, jinB, jnat, clt, cle, ceq, cgt, cge, lI_add, lI_sub, lI_mul, jadd, jsub, jmul, jneg, jtol, b010, b011, pv_2t, Int.toNat_natCast, Option.some.injEq, exists_eq_left', if_true, if_false, Ng, g5, g6, c4]
              have := nos (by
                rintro (a | a | a)
                · exact a c1
                · exact c2 a
                · exact c4 a.2)
              rw [if_neg c4] at this
              exact this
          · refine vs_ok 11 ?_
            rw [show ((gRes 20).drop 24).take 11 = [.aload 0, .getfield 1050, .aload 0, .getfield 1060, .if_icmp .ne 37, .iload 4, .iload 5, .if_icmp .lt 37, .iload 4, .iload 5, .if_icmp .ne 39] from rfl]
            simp (disch := omega) only [vs_if_icmp, vs_getfield, vs_aload0, vs_iload4, vs_iload5, vs_nil, gv_0, gv_1, gv_2, gv_3, pv_0, pv_1, va_rf_s, Nat.reduceDiv, Nat.reduceMod, Nat.reduceAdd, Nat.reduceMul, Int.reduceToNat, true_and, and_true, and_self, cP_eq, cP_ne, cP_lt, cP_ge, cP_gt, cP_le, eL_i, eL_l, eL_r, eL_n, Option.toList_none, Option.toList_some, List.nil_append, List.cons_append, kkI, llI, nnI, rrI, jjI, kkJ, llJ, nnJ, rrJ, iiJ, zIIs, zJJs, nEF, nET, and_false, false_and, jmin, jmax, catS_n, catS_i, catS_r, catS_l, Nat.reduceLeDiff, j1eq1, n21, jt0, jt1, Bool.false_eq_true, Classical.not_not, true_or, or_true, false_or, or_false, true_imp_iff, false_imp_iff, not_true_eq_false, not_false_eq_true, jif0, jif1, jifb, ltT, ltF, leT, leF, eqT, eqF, jlt, jle, jeq, jlt0, jle0, jeq0, jge0, jgt0, jinB, jnat, clt, cle, ceq, cgt, cge, lI_add, lI_sub, lI_mul, jadd, jsub, jmul, jneg, jtol, b010, b011, pv_2t, Int.toNat_natCast, Option.some.injEq, exists_eq_left', if_true, if_false, Ng, g5, g6]
            exact nos (by
              rintro (a | a | a)
              · exact a c1
              · exact c2 a
              · exact c3 a.1)
      · refine vs_ok 5 ?_
        rw [show ((gRes 20).drop 24).take 5 = [.aload 0, .getfield 1050, .aload 0, .getfield 1060, .if_icmp .ne 37] from rfl]
        simp (disch := omega) only [vs_if_icmp, vs_getfield, vs_aload0, vs_nil, gv_0, gv_1, gv_2, gv_3, pv_0, pv_1, va_rf_s, Nat.reduceDiv, Nat.reduceMod, Nat.reduceAdd, Nat.reduceMul, Int.reduceToNat, true_and, and_true, and_self, cP_eq, cP_ne, cP_lt, cP_ge, cP_gt, cP_le, eL_i, eL_l, eL_r, eL_n, Option.toList_none, Option.toList_some, List.nil_append, List.cons_append, kkI, llI, nnI, rrI, jjI, kkJ, llJ, nnJ, rrJ, iiJ, zIIs, zJJs, nEF, nET, and_false, false_and, jmin, jmax, catS_n, catS_i, catS_r, catS_l, Nat.reduceLeDiff, j1eq1, n21, jt0, jt1, Bool.false_eq_true, Classical.not_not, true_or, or_true, false_or, or_false, true_imp_iff, false_imp_iff, not_true_eq_false, not_false_eq_true, jif0, jif1, jifb, ltT, ltF, leT, leF, eqT, eqF, jlt, jle, jeq, jlt0, jle0, jeq0, jge0, jgt0, jinB, jnat, clt, cle, ceq, cgt, cge, lI_add, lI_sub, lI_mul, jadd, jsub, jmul, jneg, jtol, b010, b011, pv_2t, Int.toNat_natCast, Option.some.injEq, exists_eq_left', if_true, if_false, Ng, g5, g6]
        exact yes (Or.inl c1)
  refine vs_ok 2 ?_
  rw [show ((gRes 20).drop 0).take 2 = [.aload 0, .getfield 1022] from rfl]
  simp (disch := omega) only [vs_getfield, vs_aload0, vs_nil, gv_0, gv_1, gv_2, gv_3, pv_0, pv_1, va_rf_s, Nat.reduceDiv, Nat.reduceMod, Nat.reduceAdd, Nat.reduceMul, Int.reduceToNat, true_and, and_true, and_self, cP_eq, cP_ne, cP_lt, cP_ge, cP_gt, cP_le, eL_i, eL_l, eL_r, eL_n, Option.toList_none, Option.toList_some, List.nil_append, List.cons_append, kkI, llI, nnI, rrI, jjI, kkJ, llJ, nnJ, rrJ, iiJ, zIIs, zJJs, nEF, nET, and_false, false_and, jmin, jmax, catS_n, catS_i, catS_r, catS_l, Nat.reduceLeDiff, j1eq1, n21, jt0, jt1, Bool.false_eq_true, Classical.not_not, true_or, or_true, false_or, or_false, true_imp_iff, false_imp_iff, not_true_eq_false, not_false_eq_true, jif0, jif1, jifb, ltT, ltF, leT, leF, eqT, eqF, jlt, jle, jeq, jlt0, jle0, jeq0, jge0, jgt0, jinB, jnat, clt, cle, ceq, cgt, cge, lI_add, lI_sub, lI_mul, jadd, jsub, jmul, jneg, jtol, b010, b011, pv_2t, Int.toNat_natCast, Option.some.injEq, exists_eq_left', if_true, if_false, N]
  refine PW.ss (r := []) rfl (le_b rfl) rfl rfl (le_b rfl) (le_b rfl) ?_
  refine t_greatestOf N.2.2.1.2 hx ⟨rfl, ⟨rfl, rfl⟩, ?_⟩
  refine vs_ok 3 ?_
  rw [show ((gRes 20).drop 3).take 3 = [.istore 1, .aload 0, .getfield 1032] from rfl]
  simp (disch := omega) only [vs_getfield, vs_aload0, vs_istore1n, vs_istore1i, vs_istore1r, vs_istore1l, vs_nil, gv_0, gv_1, gv_2, gv_3, pv_0, pv_1, va_rf_s, Nat.reduceDiv, Nat.reduceMod, Nat.reduceAdd, Nat.reduceMul, Int.reduceToNat, true_and, and_true, and_self, cP_eq, cP_ne, cP_lt, cP_ge, cP_gt, cP_le, eL_i, eL_l, eL_r, eL_n, Option.toList_none, Option.toList_some, List.nil_append, List.cons_append, kkI, llI, nnI, rrI, jjI, kkJ, llJ, nnJ, rrJ, iiJ, zIIs, zJJs, nEF, nET, and_false, false_and, jmin, jmax, catS_n, catS_i, catS_r, catS_l, Nat.reduceLeDiff, j1eq1, n21, jt0, jt1, Bool.false_eq_true, Classical.not_not, true_or, or_true, false_or, or_false, true_imp_iff, false_imp_iff, not_true_eq_false, not_false_eq_true, jif0, jif1, jifb, ltT, ltF, leT, leF, eqT, eqF, jlt, jle, jeq, jlt0, jle0, jeq0, jge0, jgt0, jinB, jnat, clt, cle, ceq, cgt, cge, lI_add, lI_sub, lI_mul, jadd, jsub, jmul, jneg, jtol, b010, b011, pv_2t, Int.toNat_natCast, Option.some.injEq, exists_eq_left', if_true, if_false, N]
  refine PW.ss (r := []) rfl (le_b rfl) rfl rfl (le_b rfl) (le_b rfl) ?_
  refine t_greatestOf N.2.2.2.1.2 hy ⟨rfl, ⟨rfl, rfl⟩, ?_⟩
  refine vs_ok 2 ?_
  rw [show ((gRes 20).drop 7).take 2 = [.istore 2, .aload 0] from rfl]
  simp (disch := omega) only [vs_aload0, vs_istore2n, vs_istore2i, vs_istore2r, vs_istore2l, vs_nil, gv_0, gv_1, gv_2, gv_3, pv_0, pv_1, va_rf_s, Nat.reduceDiv, Nat.reduceMod, Nat.reduceAdd, Nat.reduceMul, Int.reduceToNat, true_and, and_true, and_self, cP_eq, cP_ne, cP_lt, cP_ge, cP_gt, cP_le, eL_i, eL_l, eL_r, eL_n, Option.toList_none, Option.toList_some, List.nil_append, List.cons_append, kkI, llI, nnI, rrI, jjI, kkJ, llJ, nnJ, rrJ, iiJ, zIIs, zJJs, nEF, nET, and_false, false_and, jmin, jmax, catS_n, catS_i, catS_r, catS_l, Nat.reduceLeDiff, j1eq1, n21, jt0, jt1, Bool.false_eq_true, Classical.not_not, true_or, or_true, false_or, or_false, true_imp_iff, false_imp_iff, not_true_eq_false, not_false_eq_true, jif0, jif1, jifb, ltT, ltF, leT, leF, eqT, eqF, jlt, jle, jeq, jlt0, jle0, jeq0, jge0, jgt0, jinB, jnat, clt, cle, ceq, cgt, cge, lI_add, lI_sub, lI_mul, jadd, jsub, jmul, jneg, jtol, b010, b011, pv_2t, Int.toNat_natCast, Option.some.injEq, exists_eq_left', if_true, if_false]
  refine PW.iv rfl rfl rfl N.1.1 N.1.2.1 (le_b rfl) (le_b rfl) ?_
  refine t_isAhead ho hx hy ⟨rfl, ⟨rfl, rfl⟩, ?_⟩
  rw [hTX, hTY]
  refine vs_ok 4 ?_
  rw [show ((gRes 20).drop 10).take 4 = [.istore 3, .aload 0, .getfield 1070, .istore 4] from rfl]
  simp (disch := omega) only [vs_getfield, vs_aload0, vs_istore3n, vs_istore3i, vs_istore3r, vs_istore3l, vs_istore4n, vs_istore4i, vs_istore4r, vs_istore4l, vs_nil, gv_0, gv_1, gv_2, gv_3, pv_0, pv_1, va_rf_s, Nat.reduceDiv, Nat.reduceMod, Nat.reduceAdd, Nat.reduceMul, Int.reduceToNat, true_and, and_true, and_self, cP_eq, cP_ne, cP_lt, cP_ge, cP_gt, cP_le, eL_i, eL_l, eL_r, eL_n, Option.toList_none, Option.toList_some, List.nil_append, List.cons_append, kkI, llI, nnI, rrI, jjI, kkJ, llJ, nnJ, rrJ, iiJ, zIIs, zJJs, nEF, nET, and_false, false_and, jmin, jmax, catS_n, catS_i, catS_r, catS_l, Nat.reduceLeDiff, j1eq1, n21, jt0, jt1, Bool.false_eq_true, Classical.not_not, true_or, or_true, false_or, or_false, true_imp_iff, false_imp_iff, not_true_eq_false, not_false_eq_true, jif0, jif1, jifb, ltT, ltF, leT, leF, eqT, eqF, jlt, jle, jeq, jlt0, jle0, jeq0, jge0, jgt0, jinB, jnat, clt, cle, ceq, cgt, cge, lI_add, lI_sub, lI_mul, jadd, jsub, jmul, jneg, jtol, b010, b011, pv_2t, Int.toNat_natCast, Option.some.injEq, exists_eq_left', if_true, if_false, N, h7]
  refine lp (60 - TX + 1 - least) least K h _ _ (by omega) fi.rf (fun i _ => rfl) hk hq (Nat.le_refl _)
