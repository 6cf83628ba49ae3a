/-! the Model: found, a pair of dice kept in its turn -/
/-- what is kept: N pairs found, the first km of them in their order -/
def ksM (h : Hp) (m N km : Nat) (KX KY : Nat → Nat → Nat) : Prop := zI h m 39 = iI km ∧ km ≤ 100 ∧ zI h m 40 = iI N ∧ ∀ k, k < km → ∀ v, v < 61 → (KX k v ≤ 64 ∧ zI h (m + 25) (61 * k + v) = iI (KX k v)) ∧ KY k v ≤ 64 ∧ zI h (m + 26) (61 * k + v) = iI (KY k v)
abbrev toI (X : Nat → Nat) : Nat → Int := fun i => (X i : Int)
/-- X is ahead of K: more of the first FACE that differs -/
abbrev adP (X K : Nat → Nat) : Prop := toI K (fdF (toI X) (toI K) 60 0) < toI X (fdF (toI X) (toI K) 60 0)
/-- where X goes: behind all that are not behind it -/
def psF (X : Nat → Nat) (KX : Nat → Nat → Nat) : Nat → Nat
  | 0 => 0
  | k + 1 => if adP X (KX k) then psF X KX k else k + 1
theorem psF_le (X : Nat → Nat) (KX : Nat → Nat → Nat) : ∀ k, psF X KX k ≤ k
  | 0 => Nat.le_refl _
  | k + 1 => by
    have := psF_le X KX k
    unfold psF
    split <;> omega
def shK (K : Nat → Nat → Nat) (a km : Nat) (X : Nat → Nat) (i : Nat) : Nat → Nat := if i < a then K i else if i = a then X else if i < km then K (i - 1) else K i
/-- of the same number of FACES, X is not behind Y -/
abbrev tnP (p q : Nat) (X Y : Nat → Nat) : Prop := ¬ (p = q ∧ toI X (fdF (toI X) (toI Y) 60 0) < toI Y (fdF (toI X) (toI Y) 60 0))
theorem fdF_r {X K : Nat → Int} : ∀ k v, v ≤ fdF X K k v ∧ fdF X K k v ≤ v + k
  | 0, v => ⟨Nat.le_refl v, Nat.le_refl v⟩
  | k + 1, v => by
    unfold fdF
    have := fdF_r (X := X) (K := K) k (v + 1)
    split <;> omega
theorem n64 {x : Nat} (h : x ≤ 64) : i32 (x : Int) := by constructor <;> omega
theorem t_M_found {d : Nat} {h : Hp} {m p q N km : Nat} {X Y : Nat → Nat} {KX KY : Nat → Nat → Nat} {Q : Nat → Option Value → Hp → Prop} (hm : mO h m) (h41 : zI h m 41 = iI p) (h42 : zI h m 42 = iI q) (hpq : p ≤ 64 ∧ q ≤ 64) (ks : ksM h m N km KX KY) (hX : ∀ v, v < 61 → X v ≤ 64 ∧ zI h (m + 22) v = iI (X v)) (hY : ∀ v, v < 61 → Y v ≤ 64 ∧ zI h (m + 23) v = iI (Y v))
    (q0 : ¬ tnP p q X Y → Q 0 none h)
    (q1 : tnP p q X Y → ∀ g, fi (fun z => z = m ∨ z = m + 25 ∨ z = m + 26) h g → (∀ i, i ≠ 39 → i ≠ 40 → zI g m i = zI h m i) → (if psF X KX km = 100 then ksM g m (N + 1) km KX KY else ksM g m (N + 1) (min (km + 1) 100) (shK KX (psF X KX km) (min (km + 1) 100) X) (shK KY (psF X KX km) (min (km + 1) 100) Y)) → Q 0 none g) : PR (d + 1) m_M_found [.ref m] h Q := by
  have M := hm.k
  have A22 := hm.xs
  have A23 := hm.ys
  obtain ⟨k39, km100, k40, kk⟩ := ks
  show PW (d + 1) 245 0 [some (.ref m), none, none, none, none] [] h Q
  -- it counts
  have p31 : tnP p q X Y → ∀ l1, PW (d + 1) 245 31 [some (.ref m), some (.int l1), none, none, none] [] h Q := by
    intro ht l1
    have q1 := q1 ht
    refine vs_ok 9 ?_
    rw [show ((gRes 245).drop 31).take 9 = [.aload 0, .dup, .getfield 12400, .iconst 1, .iadd, .putfield 12400, .aload 0, .getfield 12390, .istore 2] from rfl]
    simp (disch := omega) only [vs_iadd, vs_iconst, vs_getfield, vs_putfield, vs_dupi, vs_dupr, vs_aload0, vs_istore2n, vs_istore2i, vs_istore2r, vs_istore2l, vs_nil, gv_0, gv_1, gv_2, gv_3, pv_0, pv_1, va_rf_s, Nat.reduceDiv, Nat.reduceMod, Nat.reduceAdd, Nat.reduceMul, Int.reduceToNat, true_and, and_true, and_self, cP_eq, cP_ne, cP_lt, cP_ge, cP_gt, cP_le, eL_i, eL_l, eL_r, eL_n, Option.toList_none, Option.toList_some, List.nil_append, List.cons_append, kkI, llI, nnI, rrI, jjI, kkJ, llJ, nnJ, rrJ, iiJ, zIIs, zJJs, nEF, nET, and_false, false_and, jmin, jmax, catS_n, catS_i, catS_r, catS_l, Nat.reduceLeDiff, j1eq1, n21, jt0, jt1, Bool.false_eq_true, Classical.not_not, true_or, or_true, false_or, or_false, true_imp_iff, false_imp_iff, not_true_eq_false, not_false_eq_true, jif0, jif1, jifb, ltT, ltF, leT, leF, eqT, eqF, jlt, jle, jeq, jlt0, jle0, jeq0, jge0, jgt0, jinB, jnat, clt, cle, ceq, cgt, cge, lI_add, lI_sub, lI_mul, jadd, jsub, jmul, jneg, jtol, b010, b011, pv_2t, Int.toNat_natCast, Option.some.injEq, exists_eq_left', if_true, if_false, M, k40, k39]
    have f0 : fi (fun q => q = m) h (zsI h m 40 (iI ((N : Int) + 1))) := fi_I rfl
    have e39 : zI (zsI h m 40 (iI ((N : Int) + 1))) m 39 = iI km := by rw [zI_s, if_neg (by omega)]; exact k39
    have e40 : zI (zsI h m 40 (iI ((N : Int) + 1))) m 40 = iI ((N + 1 : Nat) : Int) := by rw [zI_s, if_pos ⟨rfl, rfl⟩]; rfl
    have eo : ∀ i, i ≠ 40 → zI (zsI h m 40 (iI ((N : Int) + 1))) m i = zI h m i := fun i hi => by rw [zI_s, if_neg fun z => hi z.2]
    have er : ∀ z, z ≠ m → zI (zsI h m 40 (iI ((N : Int) + 1))) z = zI h z := fun z hz => by funext i; rw [zI_s, if_neg fun y => hz y.1]
    generalize zsI h m 40 (iI ((N : Int) + 1)) = g0 at *
    have hm0 := hm.fi f0
    have M0 := hm0.k
    have X0 : ∀ v, v < 61 → X v ≤ 64 ∧ zI g0 (m + 22) v = iI (X v) := fun v hv => by rw [er _ (by omega)]; exact hX v hv
    have Y0 : ∀ v, v < 61 → Y v ≤ 64 ∧ zI g0 (m + 23) v = iI (Y v) := fun v hv => by rw [er _ (by omega)]; exact hY v hv
    have kk0 : ∀ k, k < km → ∀ v, v < 61 → (KX k v ≤ 64 ∧ zI g0 (m + 25) (61 * k + v) = iI (KX k v)) ∧ KY k v ≤ 64 ∧ zI g0 (m + 26) (61 * k + v) = iI (KY k v) := fun k hk v hv => by rw [er _ (by omega), er _ (by omega)]; exact kk k hk v hv
    -- the place is a
    have p50 : ∀ (a : Nat), a ≤ km → psF X KX km = a → PW (d + 1) 245 50 [some (.ref m), some (.int l1), some (.int (iI a)), none, none] [] g0 Q := by
      intro a ha hp
      rw [hp] at q1
      by_cases c100 : a = 100
      · simp only [if_pos c100] at q1
        have q := q1 g0 (f0.wk fun q z => Or.inl z) (fun i _ h40 => eo i h40) ⟨e39, km100, e40, kk0⟩
        refine vs_ok 3 ?_
        rw [show ((gRes 245).drop 50).take 3 = [.iload 2, .iconst 100, .if_icmp .ne 54] from rfl]
        simp (disch := omega) only [vs_iconst, vs_if_icmp, vs_iload2, vs_nil, gv_0, gv_1, gv_2, gv_3, pv_0, pv_1, va_rf_s, Nat.reduceDiv, Nat.reduceMod, Nat.reduceAdd, Nat.reduceMul, Int.reduceToNat, true_and, and_true, and_self, cP_eq, cP_ne, cP_lt, cP_ge, cP_gt, cP_le, eL_i, eL_l, eL_r, eL_n, Option.toList_none, Option.toList_some, List.nil_append, List.cons_append, kkI, llI, nnI, rrI, jjI, kkJ, llJ, nnJ, rrJ, iiJ, zIIs, zJJs, nEF, nET, and_false, false_and, jmin, jmax, catS_n, catS_i, catS_r, catS_l, Nat.reduceLeDiff, j1eq1, n21, jt0, jt1, Bool.false_eq_true, Classical.not_not, true_or, or_true, false_or, or_false, true_imp_iff, false_imp_iff, not_true_eq_false, not_false_eq_true, jif0, jif1, jifb, ltT, ltF, leT, leF, eqT, eqF, jlt, jle, jeq, jlt0, jle0, jeq0, jge0, jgt0, jinB, jnat, clt, cle, ceq, cgt, cge, lI_add, lI_sub, lI_mul, jadd, jsub, jmul, jneg, jtol, b010, b011, pv_2t, Int.toNat_natCast, Option.some.injEq, exists_eq_left', if_true, if_false]
        refine vs_ok 1 ?_
        rw [show ((gRes 245).drop 53).take 1 = [.return_] from rfl]
        simp (disch := omega) only [vs_return_, vs_nil, gv_0, gv_1, gv_2, gv_3, pv_0, pv_1, va_rf_s, Nat.reduceDiv, Nat.reduceMod, Nat.reduceAdd, Nat.reduceMul, Int.reduceToNat, true_and, and_true, and_self, cP_eq, cP_ne, cP_lt, cP_ge, cP_gt, cP_le, eL_i, eL_l, eL_r, eL_n, Option.toList_none, Option.toList_some, List.nil_append, List.cons_append, kkI, llI, nnI, rrI, jjI, kkJ, llJ, nnJ, rrJ, iiJ, zIIs, zJJs, nEF, nET, and_false, false_and, jmin, jmax, catS_n, catS_i, catS_r, catS_l, Nat.reduceLeDiff, j1eq1, n21, jt0, jt1, Bool.false_eq_true, Classical.not_not, true_or, or_true, false_or, or_false, true_imp_iff, false_imp_iff, not_true_eq_false, not_false_eq_true, jif0, jif1, jifb, ltT, ltF, leT, leF, eqT, eqF, jlt, jle, jeq, jlt0, jle0, jeq0, jge0, jgt0, jinB, jnat, clt, cle, ceq, cgt, cge, lI_add, lI_sub, lI_mul, jadd, jsub, jmul, jneg, jtol, b010, b011, pv_2t, Int.toNat_natCast, Option.some.injEq, exists_eq_left', if_true, if_false, show gRc 245 = 0 from rfl]
        exact q
      · simp only [if_neg c100] at q1
        obtain ⟨T, hT⟩ : ∃ T : Nat, T = min (km + 1) 100 - 1 := ⟨_, rfl⟩
        have e61 : ∀ k v : Nat, (61 : Int) * (k : Int) + (v : Int) = ((61 * k + v : Nat) : Int) := fun k v => by omega
        -- X and Y are written
        have p142 : ∀ g, fi (fun z => z = m + 25 ∨ z = m + 26) g0 g → (∀ k, k < T + 1 → ∀ v, v < 61 → zI g (m + 25) (61 * k + v) = iI (shK KX a (T + 1) X k v) ∧ zI g (m + 26) (61 * k + v) = iI (shK KY a (T + 1) Y k v)) → ∀ l3 l4 : Option Value, PW (d + 1) 245 142 [some (.ref m), some (.int l1), some (.int (iI a)), l3, l4] [] g Q := fun g f gk l3 l4 => by
          have hg := hm0.fi f
          have M := hg.k
          have em : ∀ i, zI g m i = zI g0 m i := fun i => by rw [f.1.2.2.2.2.2.1 m (by omega)]
          have g39 : zI g m 39 = iI km := by rw [em]; exact e39
          have fin : ∀ v : Nat, v = min (km + 1) 100 → PW (d + 1) 245 153 [some (.ref m), some (.int l1), some (.int (iI a)), l3, l4] [.int (iI v), .ref m] g Q := fun v hv => by
            have ev : v = T + 1 := by omega
            refine vs_ok 2 ?_
            rw [show ((gRes 245).drop 153).take 2 = [.putfield 12390, .return_] from rfl]
            simp (disch := omega) only [vs_putfield, vs_return_, vs_nil, gv_0, gv_1, gv_2, gv_3, pv_0, pv_1, va_rf_s, Nat.reduceDiv, Nat.reduceMod, Nat.reduceAdd, Nat.reduceMul, Int.reduceToNat, true_and, and_true, and_self, cP_eq, cP_ne, cP_lt, cP_ge, cP_gt, cP_le, eL_i, eL_l, eL_r, eL_n, Option.toList_none, Option.toList_some, List.nil_append, List.cons_append, kkI, llI, nnI, rrI, jjI, kkJ, llJ, nnJ, rrJ, iiJ, zIIs, zJJs, nEF, nET, and_false, false_and, jmin, jmax, catS_n, catS_i, catS_r, catS_l, Nat.reduceLeDiff, j1eq1, n21, jt0, jt1, Bool.false_eq_true, Classical.not_not, true_or, or_true, false_or, or_false, true_imp_iff, false_imp_iff, not_true_eq_false, not_false_eq_true, jif0, jif1, jifb, ltT, ltF, leT, leF, eqT, eqF, jlt, jle, jeq, jlt0, jle0, jeq0, jge0, jgt0, jinB, jnat, clt, cle, ceq, cgt, cge, lI_add, lI_sub, lI_mul, jadd, jsub, jmul, jneg, jtol, b010, b011, pv_2t, Int.toNat_natCast, Option.some.injEq, exists_eq_left', if_true, if_false, M, show gRc 245 = 0 from rfl]
            refine q1 _ (((f0.wk fun q z => Or.inl z).tr (f.wk fun q z => by omega)).I (Or.inl rfl)) (fun i h39 h40 => by rw [zI_s, if_neg (fun z => h39 z.2), em, eo i h40]) ⟨by rw [zI_s, if_pos ⟨rfl, rfl⟩, ← hv], by omega, by rw [zI_s, if_neg (by omega), em]; exact e40, fun k hk u hu => ?_⟩
            rw [← hv, ev] at hk ⊢
            obtain ⟨y1, y2⟩ := gk k hk u hu
            have bd : ∀ (K : Nat → Nat → Nat) (Z : Nat → Nat), (∀ k, k < km → K k u ≤ 64) → Z u ≤ 64 → shK K a (T + 1) Z k u ≤ 64 := fun K Z hK hZ => by
              unfold shK
              split
              · exact hK k (by omega)
              · split
                · exact hZ
                · exact hK (k - 1) (by omega)
            refine ⟨⟨bd KX X (fun j hj => (kk j hj u hu).1.1) (hX u hu).1, ?_⟩, bd KY Y (fun j hj => (kk j hj u hu).2.1) (hY u hu).1, ?_⟩
            · rw [zI_s, if_neg (by omega)]; exact y1
            · rw [zI_s, if_neg (by omega)]; exact y2
          by_cases c : km < 100
          · have e1 : (km : Int) + 1 = ((km + 1 : Nat) : Int) := by omega
            have q := fin (km + 1) (by omega)
            refine vs_ok 5 ?_
            rw [show ((gRes 245).drop 142).take 5 = [.aload 0, .aload 0, .getfield 12390, .iconst 100, .if_icmp .ge 152] from rfl]
            simp (disch := omega) only [vs_iconst, vs_if_icmp, vs_getfield, vs_aload0, vs_nil, gv_0, gv_1, gv_2, gv_3, pv_0, pv_1, va_rf_s, Nat.reduceDiv, Nat.reduceMod, Nat.reduceAdd, Nat.reduceMul, Int.reduceToNat, true_and, and_true, and_self, cP_eq, cP_ne, cP_lt, cP_ge, cP_gt, cP_le, eL_i, eL_l, eL_r, eL_n, Option.toList_none, Option.toList_some, List.nil_append, List.cons_append, kkI, llI, nnI, rrI, jjI, kkJ, llJ, nnJ, rrJ, iiJ, zIIs, zJJs, nEF, nET, and_false, false_and, jmin, jmax, catS_n, catS_i, catS_r, catS_l, Nat.reduceLeDiff, j1eq1, n21, jt0, jt1, Bool.false_eq_true, Classical.not_not, true_or, or_true, false_or, or_false, true_imp_iff, false_imp_iff, not_true_eq_false, not_false_eq_true, jif0, jif1, jifb, ltT, ltF, leT, leF, eqT, eqF, jlt, jle, jeq, jlt0, jle0, jeq0, jge0, jgt0, jinB, jnat, clt, cle, ceq, cgt, cge, lI_add, lI_sub, lI_mul, jadd, jsub, jmul, jneg, jtol, b010, b011, pv_2t, Int.toNat_natCast, Option.some.injEq, exists_eq_left', if_true, if_false, M, g39]
            refine vs_ok 5 ?_
            rw [show ((gRes 245).drop 147).take 5 = [.aload 0, .getfield 12390, .iconst 1, .iadd, .goto 153] from rfl]
            simp (disch := omega) only [vs_iadd, vs_iconst, vs_goto, vs_getfield, vs_aload0, vs_nil, gv_0, gv_1, gv_2, gv_3, pv_0, pv_1, va_rf_s, Nat.reduceDiv, Nat.reduceMod, Nat.reduceAdd, Nat.reduceMul, Int.reduceToNat, true_and, and_true, and_self, cP_eq, cP_ne, cP_lt, cP_ge, cP_gt, cP_le, eL_i, eL_l, eL_r, eL_n, Option.toList_none, Option.toList_some, List.nil_append, List.cons_append, kkI, llI, nnI, rrI, jjI, kkJ, llJ, nnJ, rrJ, iiJ, zIIs, zJJs, nEF, nET, and_false, false_and, jmin, jmax, catS_n, catS_i, catS_r, catS_l, Nat.reduceLeDiff, j1eq1, n21, jt0, jt1, Bool.false_eq_true, Classical.not_not, true_or, or_true, false_or, or_false, true_imp_iff, false_imp_iff, not_true_eq_false, not_false_eq_true, jif0, jif1, jifb, ltT, ltF, leT, leF, eqT, eqF, jlt, jle, jeq, jlt0, jle0, jeq0, jge0, jgt0, jinB, jnat, clt, cle, ceq, cgt, cge, lI_add, lI_sub, lI_mul, jadd, jsub, jmul, jneg, jtol, b010, b011, pv_2t, Int.toNat_natCast, Option.some.injEq, exists_eq_left', if_true, if_false, M, g39, e1]
            exact q
          · have q := fin 100 (by omega)
            refine vs_ok 5 ?_
            rw [show ((gRes 245).drop 142).take 5 = [.aload 0, .aload 0, .getfield 12390, .iconst 100, .if_icmp .ge 152] from rfl]
            simp (disch := omega) only [vs_iconst, vs_if_icmp, vs_getfield, vs_aload0, vs_nil, gv_0, gv_1, gv_2, gv_3, pv_0, pv_1, va_rf_s, Nat.reduceDiv, Nat.reduceMod, Nat.reduceAdd, Nat.reduceMul, Int.reduceToNat, true_and, and_true, and_self, cP_eq, cP_ne, cP_lt, cP_ge, cP_gt, cP_le, eL_i, eL_l, eL_r, eL_n, Option.toList_none, Option.toList_some, List.nil_append, List.cons_append, kkI, llI, nnI, rrI, jjI, kkJ, llJ, nnJ, rrJ, iiJ, zIIs, zJJs, nEF, nET, and_false, false_and, jmin, jmax, catS_n, catS_i, catS_r, catS_l, Nat.reduceLeDiff, j1eq1, n21, jt0, jt1, Bool.false_eq_true, Classical.not_not, true_or, or_true, false_or, or_false, true_imp_iff, false_imp_iff, not_true_eq_false, not_false_eq_true, jif0, jif1, jifb, ltT, ltF, leT, leF, eqT, eqF, jlt, jle, jeq, jlt0, jle0, jeq0, jge0, jgt0, jinB, jnat, clt, cle, ceq, cgt, cge, lI_add, lI_sub, lI_mul, jadd, jsub, jmul, jneg, jtol, b010, b011, pv_2t, Int.toNat_natCast, Option.some.injEq, exists_eq_left', if_true, if_false, M, g39]
            refine vs_ok 1 ?_
            rw [show ((gRes 245).drop 152).take 1 = [.iconst 100] from rfl]
            simp (disch := omega) only [vs_iconst, vs_nil, gv_0, gv_1, gv_2, gv_3, pv_0, pv_1, va_rf_s, Nat.reduceDiv, Nat.reduceMod, Nat.reduceAdd, Nat.reduceMul, Int.reduceToNat, true_and, and_true, and_self, cP_eq, cP_ne, cP_lt, cP_ge, cP_gt, cP_le, eL_i, eL_l, eL_r, eL_n, Option.toList_none, Option.toList_some, List.nil_append, List.cons_append, kkI, llI, nnI, rrI, jjI, kkJ, llJ, nnJ, rrJ, iiJ, zIIs, zJJs, nEF, nET, and_false, false_and, jmin, jmax, catS_n, catS_i, catS_r, catS_l, Nat.reduceLeDiff, j1eq1, n21, jt0, jt1, Bool.false_eq_true, Classical.not_not, true_or, or_true, false_or, or_false, true_imp_iff, false_imp_iff, not_true_eq_false, not_false_eq_true, jif0, jif1, jifb, ltT, ltF, leT, leF, eqT, eqF, jlt, jle, jeq, jlt0, jle0, jeq0, jge0, jgt0, jinB, jnat, clt, cle, ceq, cgt, cge, lI_add, lI_sub, lI_mul, jadd, jsub, jmul, jneg, jtol, b010, b011, pv_2t, Int.toNat_natCast, Option.some.injEq, exists_eq_left', if_true, if_false]
            exact q
        have sa : ∀ (K : Nat → Nat → Nat) (Z : Nat → Nat), shK K a (T + 1) Z a = Z := fun K Z => by
          unfold shK
          rw [if_neg (Nat.lt_irrefl a), if_pos rfl]
        have lpw : ∀ (j u : Nat) (g : Hp), j + u = 61 → fi (fun z => z = m + 25 ∨ z = m + 26) g0 g → (∀ k, k < T + 1 → ∀ v, v < 61 → (k ≠ a ∨ v < u) → zI g (m + 25) (61 * k + v) = iI (shK KX a (T + 1) X k v) ∧ zI g (m + 26) (61 * k + v) = iI (shK KY a (T + 1) Y k v)) → ∀ l4 : Option Value, PW (d + 1) 245 113 [some (.ref m), some (.int l1), some (.int (iI a)), some (.int (iI u)), l4] [] g Q := by
          intro j
          induction j with
          | zero =>
            intro u g hj f gk l4
            have e : u = 61 := by omega
            subst e
            refine vs_ok 3 ?_
            rw [show ((gRes 245).drop 113).take 3 = [.iload 3, .iconst 61, .if_icmp .ge 142] from rfl]
            simp (disch := omega) only [vs_iconst, vs_if_icmp, vs_iload3, vs_nil, gv_0, gv_1, gv_2, gv_3, pv_0, pv_1, va_rf_s, Nat.reduceDiv, Nat.reduceMod, Nat.reduceAdd, Nat.reduceMul, Int.reduceToNat, true_and, and_true, and_self, cP_eq, cP_ne, cP_lt, cP_ge, cP_gt, cP_le, eL_i, eL_l, eL_r, eL_n, Option.toList_none, Option.toList_some, List.nil_append, List.cons_append, kkI, llI, nnI, rrI, jjI, kkJ, llJ, nnJ, rrJ, iiJ, zIIs, zJJs, nEF, nET, and_false, false_and, jmin, jmax, catS_n, catS_i, catS_r, catS_l, Nat.reduceLeDiff, j1eq1, n21, jt0, jt1, Bool.false_eq_true, Classical.not_not, true_or, or_true, false_or, or_false, true_imp_iff, false_imp_iff, not_true_eq_false, not_false_eq_true, jif0, jif1, jifb, ltT, ltF, leT, leF, eqT, eqF, jlt, jle, jeq, jlt0, jle0, jeq0, jge0, jgt0, jinB, jnat, clt, cle, ceq, cgt, cge, lI_add, lI_sub, lI_mul, jadd, jsub, jmul, jneg, jtol, b010, b011, pv_2t, Int.toNat_natCast, Option.some.injEq, exists_eq_left', if_true, if_false]
            exact p142 g f (fun k hk v hv => gk k hk v hv (Or.inr hv)) _ l4
          | succ j ih =>
            intro u g hj f gk l4
            have hg := hm0.fi f
            have M := hg.k
            have A22 := hg.xs
            have A23 := hg.ys
            have A25 := hg.keptX
            have A26 := hg.keptY
            have xu : zI g (m + 22) u = iI (X u) := by rw [f.1.2.2.2.2.2.1 (m + 22) (by omega)]; exact (X0 u (by omega)).2
            have yu : zI g (m + 23) u = iI (Y u) := by rw [f.1.2.2.2.2.2.1 (m + 23) (by omega)]; exact (Y0 u (by omega)).2
            refine vs_ok 3 ?_
            rw [show ((gRes 245).drop 113).take 3 = [.iload 3, .iconst 61, .if_icmp .ge 142] from rfl]
            simp (disch := omega) only [vs_iconst, vs_if_icmp, vs_iload3, vs_nil, gv_0, gv_1, gv_2, gv_3, pv_0, pv_1, va_rf_s, Nat.reduceDiv, Nat.reduceMod, Nat.reduceAdd, Nat.reduceMul, Int.reduceToNat, true_and, and_true, and_self, cP_eq, cP_ne, cP_lt, cP_ge, cP_gt, cP_le, eL_i, eL_l, eL_r, eL_n, Option.toList_none, Option.toList_some, List.nil_append, List.cons_append, kkI, llI, nnI, rrI, jjI, kkJ, llJ, nnJ, rrJ, iiJ, zIIs, zJJs, nEF, nET, and_false, false_and, jmin, jmax, catS_n, catS_i, catS_r, catS_l, Nat.reduceLeDiff, j1eq1, n21, jt0, jt1, Bool.false_eq_true, Classical.not_not, true_or, or_true, false_or, or_false, true_imp_iff, false_imp_iff, not_true_eq_false, not_false_eq_true, jif0, jif1, jifb, ltT, ltF, leT, leF, eqT, eqF, jlt, jle, jeq, jlt0, jle0, jeq0, jge0, jgt0, jinB, jnat, clt, cle, ceq, cgt, cge, lI_add, lI_sub, lI_mul, jadd, jsub, jmul, jneg, jtol, b010, b011, pv_2t, Int.toNat_natCast, Option.some.injEq, exists_eq_left', if_true, if_false]
            refine vs_ok 26 ?_
            rw [show ((gRes 245).drop 116).take 26 = [.aload 0, .getfield 12372, .iconst 61, .iload 2, .imul, .iload 3, .iadd, .aload 0, .getfield 12342, .iload 3, .iaload, .iastore, .aload 0, .getfield 12382, .iconst 61, .iload 2, .imul, .iload 3, .iadd, .aload 0, .getfield 12352, .iload 3, .iaload, .iastore, .iinc 3 1, .goto 113] from rfl]
            simp (disch := omega) only [vs_iadd, vs_imul, vs_iconst, vs_goto, vs_getfield, vs_iaload, vs_iastore, vs_aload0, vs_iload2, vs_iload3, vs_iinc3n, vs_iinc3i, vs_iinc3r, vs_iinc3l, vs_nil, gv_0, gv_1, gv_2, gv_3, pv_0, pv_1, va_rf_s, Nat.reduceDiv, Nat.reduceMod, Nat.reduceAdd, Nat.reduceMul, Int.reduceToNat, true_and, and_true, and_self, cP_eq, cP_ne, cP_lt, cP_ge, cP_gt, cP_le, eL_i, eL_l, eL_r, eL_n, Option.toList_none, Option.toList_some, List.nil_append, List.cons_append, kkI, llI, nnI, rrI, jjI, kkJ, llJ, nnJ, rrJ, iiJ, zIIs, zJJs, nEF, nET, and_false, false_and, jmin, jmax, catS_n, catS_i, catS_r, catS_l, Nat.reduceLeDiff, j1eq1, n21, jt0, jt1, Bool.false_eq_true, Classical.not_not, true_or, or_true, false_or, or_false, true_imp_iff, false_imp_iff, not_true_eq_false, not_false_eq_true, jif0, jif1, jifb, ltT, ltF, leT, leF, eqT, eqF, jlt, jle, jeq, jlt0, jle0, jeq0, jge0, jgt0, jinB, jnat, clt, cle, ceq, cgt, cge, lI_add, lI_sub, lI_mul, jadd, jsub, jmul, jneg, jtol, b010, b011, pv_2t, Int.toNat_natCast, Option.some.injEq, exists_eq_left', if_true, if_false, M, A22, A23, A25, A26, e61, xu, yu]
            refine ih (u + 1) _ (by omega) ((f.I (Or.inl rfl)).I (Or.inr rfl)) (fun k hk v hv hc => ?_) _
            rw [zI_s, if_neg (by omega), zI_s, zI_s]
            by_cases z : k = a ∧ v = u
            · rw [if_pos ⟨rfl, by omega⟩, if_pos ⟨rfl, by omega⟩, z.1, z.2, sa, sa]
              exact ⟨rfl, rfl⟩
            · rw [if_neg (by omega), if_neg (by omega), zI_s, if_neg (by omega)]
              exact gk k hk v hv (by omega)
        have aT : a ≤ T := by omega
        -- those behind go one place on
        have lps : ∀ (r : Nat) (g : Hp), a + r ≤ T → fi (fun z => z = m + 25 ∨ z = m + 26) g0 g → (∀ j v, v < 61 → (a + r < j → j ≤ T → zI g (m + 25) (61 * j + v) = iI (KX (j - 1) v) ∧ zI g (m + 26) (61 * j + v) = iI (KY (j - 1) v)) ∧ (j ≤ a + r → j < km → zI g (m + 25) (61 * j + v) = iI (KX j v) ∧ zI g (m + 26) (61 * j + v) = iI (KY j v))) → ∀ l4 : Option Value, PW (d + 1) 245 63 [some (.ref m), some (.int l1), some (.int (iI a)), some (.int (iI ((a + r : Nat) : Int))), l4] [] g Q := by
          intro r
          induction r with
          | zero =>
            intro g hr f gk l4
            refine vs_ok 3 ?_
            rw [show ((gRes 245).drop 63).take 3 = [.iload 3, .iload 2, .if_icmp .le 111] from rfl]
            simp (disch := omega) only [vs_if_icmp, vs_iload2, vs_iload3, vs_nil, gv_0, gv_1, gv_2, gv_3, pv_0, pv_1, va_rf_s, Nat.reduceDiv, Nat.reduceMod, Nat.reduceAdd, Nat.reduceMul, Int.reduceToNat, true_and, and_true, and_self, cP_eq, cP_ne, cP_lt, cP_ge, cP_gt, cP_le, eL_i, eL_l, eL_r, eL_n, Option.toList_none, Option.toList_some, List.nil_append, List.cons_append, kkI, llI, nnI, rrI, jjI, kkJ, llJ, nnJ, rrJ, iiJ, zIIs, zJJs, nEF, nET, and_false, false_and, jmin, jmax, catS_n, catS_i, catS_r, catS_l, Nat.reduceLeDiff, j1eq1, n21, jt0, jt1, Bool.false_eq_true, Classical.not_not, true_or, or_true, false_or, or_false, true_imp_iff, false_imp_iff, not_true_eq_false, not_false_eq_true, jif0, jif1, jifb, ltT, ltF, leT, leF, eqT, eqF, jlt, jle, jeq, jlt0, jle0, jeq0, jge0, jgt0, jinB, jnat, clt, cle, ceq, cgt, cge, lI_add, lI_sub, lI_mul, jadd, jsub, jmul, jneg, jtol, b010, b011, pv_2t, Int.toNat_natCast, Option.some.injEq, exists_eq_left', if_true, if_false]
            refine vs_ok 2 ?_
            rw [show ((gRes 245).drop 111).take 2 = [.iconst 0, .istore 3] from rfl]
            simp (disch := omega) only [vs_iconst, vs_istore3n, vs_istore3i, vs_istore3r, vs_istore3l, vs_nil, gv_0, gv_1, gv_2, gv_3, pv_0, pv_1, va_rf_s, Nat.reduceDiv, Nat.reduceMod, Nat.reduceAdd, Nat.reduceMul, Int.reduceToNat, true_and, and_true, and_self, cP_eq, cP_ne, cP_lt, cP_ge, cP_gt, cP_le, eL_i, eL_l, eL_r, eL_n, Option.toList_none, Option.toList_some, List.nil_append, List.cons_append, kkI, llI, nnI, rrI, jjI, kkJ, llJ, nnJ, rrJ, iiJ, zIIs, zJJs, nEF, nET, and_false, false_and, jmin, jmax, catS_n, catS_i, catS_r, catS_l, Nat.reduceLeDiff, j1eq1, n21, jt0, jt1, Bool.false_eq_true, Classical.not_not, true_or, or_true, false_or, or_false, true_imp_iff, false_imp_iff, not_true_eq_false, not_false_eq_true, jif0, jif1, jifb, ltT, ltF, leT, leF, eqT, eqF, jlt, jle, jeq, jlt0, jle0, jeq0, jge0, jgt0, jinB, jnat, clt, cle, ceq, cgt, cge, lI_add, lI_sub, lI_mul, jadd, jsub, jmul, jneg, jtol, b010, b011, pv_2t, Int.toNat_natCast, Option.some.injEq, exists_eq_left', if_true, if_false]
            refine lpw 61 0 g (by omega) f (fun k hk v hv hc => ?_) _
            unfold shK
            by_cases c : k < a
            · rw [if_pos c, if_pos c]
              exact (gk k v hv).2 (by omega) (by omega)
            · rw [if_neg c, if_neg c, if_neg (show ¬ k = a by omega), if_neg (show ¬ k = a by omega), if_pos hk, if_pos hk]
              exact (gk k v hv).1 (by omega) (by omega)
          | succ r ih =>
            intro g hr f gk l4
            have lpf : ∀ (j u : Nat) (g : Hp), j + u = 61 → fi (fun z => z = m + 25 ∨ z = m + 26) g0 g → (∀ j v, v < 61 → ((a + r + 1 < j ∨ j = a + r + 1 ∧ v < u) → j ≤ T → zI g (m + 25) (61 * j + v) = iI (KX (j - 1) v) ∧ zI g (m + 26) (61 * j + v) = iI (KY (j - 1) v)) ∧ (j ≤ a + r → j < km → zI g (m + 25) (61 * j + v) = iI (KX j v) ∧ zI g (m + 26) (61 * j + v) = iI (KY j v))) → PW (d + 1) 245 68 [some (.ref m), some (.int l1), some (.int (iI a)), some (.int (iI ((a + r + 1 : Nat) : Int))), some (.int (iI u))] [] g Q := by
              intro j
              induction j with
              | zero =>
                intro u g hj f gk
                have e : u = 61 := by omega
                subst e
                have e2 : ((a + r + 1 : Nat) : Int) + -1 = ((a + r : Nat) : Int) := by omega
                refine vs_ok 3 ?_
                rw [show ((gRes 245).drop 68).take 3 = [.iload 4, .iconst 61, .if_icmp .ge 109] from rfl]
                simp (disch := omega) only [vs_iconst, vs_if_icmp, vs_iload4, vs_nil, gv_0, gv_1, gv_2, gv_3, pv_0, pv_1, va_rf_s, Nat.reduceDiv, Nat.reduceMod, Nat.reduceAdd, Nat.reduceMul, Int.reduceToNat, true_and, and_true, and_self, cP_eq, cP_ne, cP_lt, cP_ge, cP_gt, cP_le, eL_i, eL_l, eL_r, eL_n, Option.toList_none, Option.toList_some, List.nil_append, List.cons_append, kkI, llI, nnI, rrI, jjI, kkJ, llJ, nnJ, rrJ, iiJ, zIIs, zJJs, nEF, nET, and_false, false_and, jmin, jmax, catS_n, catS_i, catS_r, catS_l, Nat.reduceLeDiff, j1eq1, n21, jt0, jt1, Bool.false_eq_true, Classical.not_not, true_or, or_true, false_or, or_false, true_imp_iff, false_imp_iff, not_true_eq_false, not_false_eq_true, jif0, jif1, jifb, ltT, ltF, leT, leF, eqT, eqF, jlt, jle, jeq, jlt0, jle0, jeq0, jge0, jgt0, jinB, jnat, clt, cle, ceq, cgt, cge, lI_add, lI_sub, lI_mul, jadd, jsub, jmul, jneg, jtol, b010, b011, pv_2t, Int.toNat_natCast, Option.some.injEq, exists_eq_left', if_true, if_false]
                refine vs_ok 2 ?_
                rw [show ((gRes 245).drop 109).take 2 = [.iinc 3 (-1), .goto 63] from rfl]
                simp (disch := omega) only [vs_goto, vs_iinc3n, vs_iinc3i, vs_iinc3r, vs_iinc3l, vs_nil, gv_0, gv_1, gv_2, gv_3, pv_0, pv_1, va_rf_s, Nat.reduceDiv, Nat.reduceMod, Nat.reduceAdd, Nat.reduceMul, Int.reduceToNat, true_and, and_true, and_self, cP_eq, cP_ne, cP_lt, cP_ge, cP_gt, cP_le, eL_i, eL_l, eL_r, eL_n, Option.toList_none, Option.toList_some, List.nil_append, List.cons_append, kkI, llI, nnI, rrI, jjI, kkJ, llJ, nnJ, rrJ, iiJ, zIIs, zJJs, nEF, nET, and_false, false_and, jmin, jmax, catS_n, catS_i, catS_r, catS_l, Nat.reduceLeDiff, j1eq1, n21, jt0, jt1, Bool.false_eq_true, Classical.not_not, true_or, or_true, false_or, or_false, true_imp_iff, false_imp_iff, not_true_eq_false, not_false_eq_true, jif0, jif1, jifb, ltT, ltF, leT, leF, eqT, eqF, jlt, jle, jeq, jlt0, jle0, jeq0, jge0, jgt0, jinB, jnat, clt, cle, ceq, cgt, cge, lI_add, lI_sub, lI_mul, jadd, jsub, jmul, jneg, jtol, b010, b011, pv_2t, Int.toNat_natCast, Option.some.injEq, exists_eq_left', if_true, if_false, e2]
                refine ih g (by omega) f (fun j v hv => ⟨fun h1 h2 => (gk j v hv).1 (by omega) h2, fun h1 h2 => (gk j v hv).2 (by omega) h2⟩) _
              | succ j ihf =>
                intro u g hj f gk
                have hg := hm0.fi f
                have M := hg.k
                have A25 := hg.keptX
                have A26 := hg.keptY
                have e2 : ((a + r + 1 : Nat) : Int) - 1 = ((a + r : Nat) : Int) := by omega
                have old := (gk (a + r) u (by omega)).2 (Nat.le_refl _) (by omega)
                refine vs_ok 3 ?_
                rw [show ((gRes 245).drop 68).take 3 = [.iload 4, .iconst 61, .if_icmp .ge 109] from rfl]
                simp (disch := omega) only [vs_iconst, vs_if_icmp, vs_iload4, vs_nil, gv_0, gv_1, gv_2, gv_3, pv_0, pv_1, va_rf_s, Nat.reduceDiv, Nat.reduceMod, Nat.reduceAdd, Nat.reduceMul, Int.reduceToNat, true_and, and_true, and_self, cP_eq, cP_ne, cP_lt, cP_ge, cP_gt, cP_le, eL_i, eL_l, eL_r, eL_n, Option.toList_none, Option.toList_some, List.nil_append, List.cons_append, kkI, llI, nnI, rrI, jjI, kkJ, llJ, nnJ, rrJ, iiJ, zIIs, zJJs, nEF, nET, and_false, false_and, jmin, jmax, catS_n, catS_i, catS_r, catS_l, Nat.reduceLeDiff, j1eq1, n21, jt0, jt1, Bool.false_eq_true, Classical.not_not, true_or, or_true, false_or, or_false, true_imp_iff, false_imp_iff, not_true_eq_false, not_false_eq_true, jif0, jif1, jifb, ltT, ltF, leT, leF, eqT, eqF, jlt, jle, jeq, jlt0, jle0, jeq0, jge0, jgt0, jinB, jnat, clt, cle, ceq, cgt, cge, lI_add, lI_sub, lI_mul, jadd, jsub, jmul, jneg, jtol, b010, b011, pv_2t, Int.toNat_natCast, Option.some.injEq, exists_eq_left', if_true, if_false]
                refine vs_ok 18 ?_
                rw [show ((gRes 245).drop 71).take 18 = [.aload 0, .getfield 12372, .iconst 61, .iload 3, .imul, .iload 4, .iadd, .aload 0, .getfield 12372, .iconst 61, .iload 3, .iconst 1, .isub, .imul, .iload 4, .iadd, .iaload, .iastore] from rfl]
                simp (disch := omega) only [vs_iadd, vs_isub, vs_imul, vs_iconst, vs_getfield, vs_iaload, vs_iastore, vs_aload0, vs_iload3, vs_iload4, vs_nil, gv_0, gv_1, gv_2, gv_3, pv_0, pv_1, va_rf_s, Nat.reduceDiv, Nat.reduceMod, Nat.reduceAdd, Nat.reduceMul, Int.reduceToNat, true_and, and_true, and_self, cP_eq, cP_ne, cP_lt, cP_ge, cP_gt, cP_le, eL_i, eL_l, eL_r, eL_n, Option.toList_none, Option.toList_some, List.nil_append, List.cons_append, kkI, llI, nnI, rrI, jjI, kkJ, llJ, nnJ, rrJ, iiJ, zIIs, zJJs, nEF, nET, and_false, false_and, jmin, jmax, catS_n, catS_i, catS_r, catS_l, Nat.reduceLeDiff, j1eq1, n21, jt0, jt1, Bool.false_eq_true, Classical.not_not, true_or, or_true, false_or, or_false, true_imp_iff, false_imp_iff, not_true_eq_false, not_false_eq_true, jif0, jif1, jifb, ltT, ltF, leT, leF, eqT, eqF, jlt, jle, jeq, jlt0, jle0, jeq0, jge0, jgt0, jinB, jnat, clt, cle, ceq, cgt, cge, lI_add, lI_sub, lI_mul, jadd, jsub, jmul, jneg, jtol, b010, b011, pv_2t, Int.toNat_natCast, Option.some.injEq, exists_eq_left', if_true, if_false, M, A25, e61, e2, old.1]
                have old2 : zI (zsI g (m + 25) (61 * (a + r + 1) + u) (iI (KX (a + r) u))) (m + 26) (61 * (a + r) + u) = iI (KY (a + r) u) := by rw [zI_s, if_neg (by omega)]; exact old.2
                have f2 := f.I (a := m + 25) (i := 61 * (a + r + 1) + u) (v := iI (KX (a + r) u)) (Or.inl rfl)
                have v25 : ∀ t, zI (zsI g (m + 25) (61 * (a + r + 1) + u) (iI (KX (a + r) u))) (m + 25) t = if t = 61 * (a + r + 1) + u then iI (KX (a + r) u) else zI g (m + 25) t := fun t => by
                  rw [zI_s]
                  by_cases z : t = 61 * (a + r + 1) + u
                  · rw [if_pos ⟨rfl, z⟩, if_pos z]
                  · rw [if_neg (fun y => z y.2), if_neg z]
                have v26 : zI (zsI g (m + 25) (61 * (a + r + 1) + u) (iI (KX (a + r) u))) (m + 26) = zI g (m + 26) := by funext t; rw [zI_s, if_neg (by omega)]
                generalize zsI g (m + 25) (61 * (a + r + 1) + u) (iI (KX (a + r) u)) = g2 at *
                have hg2 := hm0.fi f2
                have M2 := hg2.k
                have B26 := hg2.keptY
                refine vs_ok 20 ?_
                rw [show ((gRes 245).drop 89).take 20 = [.aload 0, .getfield 12382, .iconst 61, .iload 3, .imul, .iload 4, .iadd, .aload 0, .getfield 12382, .iconst 61, .iload 3, .iconst 1, .isub, .imul, .iload 4, .iadd, .iaload, .iastore, .iinc 4 1, .goto 68] from rfl]
                simp (disch := omega) only [vs_iadd, vs_isub, vs_imul, vs_iconst, vs_goto, vs_getfield, vs_iaload, vs_iastore, vs_aload0, vs_iload3, vs_iload4, vs_iinc4n, vs_iinc4i, vs_iinc4r, vs_iinc4l, vs_nil, gv_0, gv_1, gv_2, gv_3, pv_0, pv_1, va_rf_s, Nat.reduceDiv, Nat.reduceMod, Nat.reduceAdd, Nat.reduceMul, Int.reduceToNat, true_and, and_true, and_self, cP_eq, cP_ne, cP_lt, cP_ge, cP_gt, cP_le, eL_i, eL_l, eL_r, eL_n, Option.toList_none, Option.toList_some, List.nil_append, List.cons_append, kkI, llI, nnI, rrI, jjI, kkJ, llJ, nnJ, rrJ, iiJ, zIIs, zJJs, nEF, nET, and_false, false_and, jmin, jmax, catS_n, catS_i, catS_r, catS_l, Nat.reduceLeDiff, j1eq1, n21, jt0, jt1, Bool.false_eq_true, Classical.not_not, true_or, or_true, false_or, or_false, true_imp_iff, false_imp_iff, not_true_eq_false, not_false_eq_true, jif0, jif1, jifb, ltT, ltF, leT, leF, eqT, eqF, jlt, jle, jeq, jlt0, jle0, jeq0, jge0, jgt0, jinB, jnat, clt, cle, ceq, cgt, cge, lI_add, lI_sub, lI_mul, jadd, jsub, jmul, jneg, jtol, b010, b011, pv_2t, Int.toNat_natCast, Option.some.injEq, exists_eq_left', if_true, if_false, M2, B26, e61, e2, old2]
                refine ihf (u + 1) _ (by omega) (f2.I (Or.inr rfl)) (fun j v hv => ⟨fun h1 h2 => ?_, fun h1 h2 => ?_⟩)
                · rw [zI_s, if_neg (by omega), zI_s, v25, v26]
                  by_cases z : j = a + r + 1 ∧ v = u
                  · rw [if_pos (by omega), if_pos ⟨rfl, by omega⟩, z.1, z.2]
                    exact ⟨rfl, rfl⟩
                  · rw [if_neg (by omega), if_neg (by omega)]
                    exact (gk j v hv).1 (by omega) h2
                · rw [zI_s, if_neg (by omega), zI_s, v25, v26, if_neg (by omega), if_neg (by omega)]
                  exact (gk j v hv).2 h1 h2
            refine vs_ok 3 ?_
            rw [show ((gRes 245).drop 63).take 3 = [.iload 3, .iload 2, .if_icmp .le 111] from rfl]
            simp (disch := omega) only [vs_if_icmp, vs_iload2, vs_iload3, vs_nil, gv_0, gv_1, gv_2, gv_3, pv_0, pv_1, va_rf_s, Nat.reduceDiv, Nat.reduceMod, Nat.reduceAdd, Nat.reduceMul, Int.reduceToNat, true_and, and_true, and_self, cP_eq, cP_ne, cP_lt, cP_ge, cP_gt, cP_le, eL_i, eL_l, eL_r, eL_n, Option.toList_none, Option.toList_some, List.nil_append, List.cons_append, kkI, llI, nnI, rrI, jjI, kkJ, llJ, nnJ, rrJ, iiJ, zIIs, zJJs, nEF, nET, and_false, false_and, jmin, jmax, catS_n, catS_i, catS_r, catS_l, Nat.reduceLeDiff, j1eq1, n21, jt0, jt1, Bool.false_eq_true, Classical.not_not, true_or, or_true, false_or, or_false, true_imp_iff, false_imp_iff, not_true_eq_false, not_false_eq_true, jif0, jif1, jifb, ltT, ltF, leT, leF, eqT, eqF, jlt, jle, jeq, jlt0, jle0, jeq0, jge0, jgt0, jinB, jnat, clt, cle, ceq, cgt, cge, lI_add, lI_sub, lI_mul, jadd, jsub, jmul, jneg, jtol, b010, b011, pv_2t, Int.toNat_natCast, Option.some.injEq, exists_eq_left', if_true, if_false]
            refine vs_ok 2 ?_
            rw [show ((gRes 245).drop 66).take 2 = [.iconst 0, .istore 4] from rfl]
            simp (disch := omega) only [vs_iconst, vs_istore4n, vs_istore4i, vs_istore4r, vs_istore4l, vs_nil, gv_0, gv_1, gv_2, gv_3, pv_0, pv_1, va_rf_s, Nat.reduceDiv, Nat.reduceMod, Nat.reduceAdd, Nat.reduceMul, Int.reduceToNat, true_and, and_true, and_self, cP_eq, cP_ne, cP_lt, cP_ge, cP_gt, cP_le, eL_i, eL_l, eL_r, eL_n, Option.toList_none, Option.toList_some, List.nil_append, List.cons_append, kkI, llI, nnI, rrI, jjI, kkJ, llJ, nnJ, rrJ, iiJ, zIIs, zJJs, nEF, nET, and_false, false_and, jmin, jmax, catS_n, catS_i, catS_r, catS_l, Nat.reduceLeDiff, j1eq1, n21, jt0, jt1, Bool.false_eq_true, Classical.not_not, true_or, or_true, false_or, or_false, true_imp_iff, false_imp_iff, not_true_eq_false, not_false_eq_true, jif0, jif1, jifb, ltT, ltF, leT, leF, eqT, eqF, jlt, jle, jeq, jlt0, jle0, jeq0, jge0, jgt0, jinB, jnat, clt, cle, ceq, cgt, cge, lI_add, lI_sub, lI_mul, jadd, jsub, jmul, jneg, jtol, b010, b011, pv_2t, Int.toNat_natCast, Option.some.injEq, exists_eq_left', if_true, if_false]
            exact lpf 61 0 g (by omega) f (fun j v hv => ⟨fun h1 h2 => (gk j v hv).1 (by omega) h2, fun h1 h2 => (gk j v hv).2 (by omega) h2⟩)
        have p63 : ∀ t : Nat, t = T → PW (d + 1) 245 62 [some (.ref m), some (.int l1), some (.int (iI a)), none, none] [.int (iI t)] g0 Q := fun t ht => by
          have q := lps (T - a) g0 (by omega) fi.rf (fun j v hv => ⟨fun h1 h2 => absurd h1 (by omega), fun h1 h2 => ⟨(kk0 j h2 v hv).1.2, (kk0 j h2 v hv).2.2⟩⟩) none
          rw [show a + (T - a) = t by omega] at q
          refine vs_ok 1 ?_
          rw [show ((gRes 245).drop 62).take 1 = [.istore 3] from rfl]
          simp (disch := omega) only [vs_istore3n, vs_istore3i, vs_istore3r, vs_istore3l, vs_nil, gv_0, gv_1, gv_2, gv_3, pv_0, pv_1, va_rf_s, Nat.reduceDiv, Nat.reduceMod, Nat.reduceAdd, Nat.reduceMul, Int.reduceToNat, true_and, and_true, and_self, cP_eq, cP_ne, cP_lt, cP_ge, cP_gt, cP_le, eL_i, eL_l, eL_r, eL_n, Option.toList_none, Option.toList_some, List.nil_append, List.cons_append, kkI, llI, nnI, rrI, jjI, kkJ, llJ, nnJ, rrJ, iiJ, zIIs, zJJs, nEF, nET, and_false, false_and, jmin, jmax, catS_n, catS_i, catS_r, catS_l, Nat.reduceLeDiff, j1eq1, n21, jt0, jt1, Bool.false_eq_true, Classical.not_not, true_or, or_true, false_or, or_false, true_imp_iff, false_imp_iff, not_true_eq_false, not_false_eq_true, jif0, jif1, jifb, ltT, ltF, leT, leF, eqT, eqF, jlt, jle, jeq, jlt0, jle0, jeq0, jge0, jgt0, jinB, jnat, clt, cle, ceq, cgt, cge, lI_add, lI_sub, lI_mul, jadd, jsub, jmul, jneg, jtol, b010, b011, pv_2t, Int.toNat_natCast, Option.some.injEq, exists_eq_left', if_true, if_false]
          exact q
        by_cases c : km < 100
        · have q := p63 km (by omega)
          refine vs_ok 3 ?_
          rw [show ((gRes 245).drop 50).take 3 = [.iload 2, .iconst 100, .if_icmp .ne 54] from rfl]
          simp (disch := omega) only [vs_iconst, vs_if_icmp, vs_iload2, vs_nil, gv_0, gv_1, gv_2, gv_3, pv_0, pv_1, va_rf_s, Nat.reduceDiv, Nat.reduceMod, Nat.reduceAdd, Nat.reduceMul, Int.reduceToNat, true_and, and_true, and_self, cP_eq, cP_ne, cP_lt, cP_ge, cP_gt, cP_le, eL_i, eL_l, eL_r, eL_n, Option.toList_none, Option.toList_some, List.nil_append, List.cons_append, kkI, llI, nnI, rrI, jjI, kkJ, llJ, nnJ, rrJ, iiJ, zIIs, zJJs, nEF, nET, and_false, false_and, jmin, jmax, catS_n, catS_i, catS_r, catS_l, Nat.reduceLeDiff, j1eq1, n21, jt0, jt1, Bool.false_eq_true, Classical.not_not, true_or, or_true, false_or, or_false, true_imp_iff, false_imp_iff, not_true_eq_false, not_false_eq_true, jif0, jif1, jifb, ltT, ltF, leT, leF, eqT, eqF, jlt, jle, jeq, jlt0, jle0, jeq0, jge0, jgt0, jinB, jnat, clt, cle, ceq, cgt, cge, lI_add, lI_sub, lI_mul, jadd, jsub, jmul, jneg, jtol, b010, b011, pv_2t, Int.toNat_natCast, Option.some.injEq, exists_eq_left', if_true, if_false]
          refine vs_ok 4 ?_
          rw [show ((gRes 245).drop 54).take 4 = [.aload 0, .getfield 12390, .iconst 100, .if_icmp .ge 61] from rfl]
          simp (disch := omega) only [vs_iconst, vs_if_icmp, vs_getfield, vs_aload0, vs_nil, gv_0, gv_1, gv_2, gv_3, pv_0, pv_1, va_rf_s, Nat.reduceDiv, Nat.reduceMod, Nat.reduceAdd, Nat.reduceMul, Int.reduceToNat, true_and, and_true, and_self, cP_eq, cP_ne, cP_lt, cP_ge, cP_gt, cP_le, eL_i, eL_l, eL_r, eL_n, Option.toList_none, Option.toList_some, List.nil_append, List.cons_append, kkI, llI, nnI, rrI, jjI, kkJ, llJ, nnJ, rrJ, iiJ, zIIs, zJJs, nEF, nET, and_false, false_and, jmin, jmax, catS_n, catS_i, catS_r, catS_l, Nat.reduceLeDiff, j1eq1, n21, jt0, jt1, Bool.false_eq_true, Classical.not_not, true_or, or_true, false_or, or_false, true_imp_iff, false_imp_iff, not_true_eq_false, not_false_eq_true, jif0, jif1, jifb, ltT, ltF, leT, leF, eqT, eqF, jlt, jle, jeq, jlt0, jle0, jeq0, jge0, jgt0, jinB, jnat, clt, cle, ceq, cgt, cge, lI_add, lI_sub, lI_mul, jadd, jsub, jmul, jneg, jtol, b010, b011, pv_2t, Int.toNat_natCast, Option.some.injEq, exists_eq_left', if_true, if_false, M0, e39]
          refine vs_ok 3 ?_
          rw [show ((gRes 245).drop 58).take 3 = [.aload 0, .getfield 12390, .goto 62] from rfl]
          simp (disch := omega) only [vs_goto, vs_getfield, vs_aload0, vs_nil, gv_0, gv_1, gv_2, gv_3, pv_0, pv_1, va_rf_s, Nat.reduceDiv, Nat.reduceMod, Nat.reduceAdd, Nat.reduceMul, Int.reduceToNat, true_and, and_true, and_self, cP_eq, cP_ne, cP_lt, cP_ge, cP_gt, cP_le, eL_i, eL_l, eL_r, eL_n, Option.toList_none, Option.toList_some, List.nil_append, List.cons_append, kkI, llI, nnI, rrI, jjI, kkJ, llJ, nnJ, rrJ, iiJ, zIIs, zJJs, nEF, nET, and_false, false_and, jmin, jmax, catS_n, catS_i, catS_r, catS_l, Nat.reduceLeDiff, j1eq1, n21, jt0, jt1, Bool.false_eq_true, Classical.not_not, true_or, or_true, false_or, or_false, true_imp_iff, false_imp_iff, not_true_eq_false, not_false_eq_true, jif0, jif1, jifb, ltT, ltF, leT, leF, eqT, eqF, jlt, jle, jeq, jlt0, jle0, jeq0, jge0, jgt0, jinB, jnat, clt, cle, ceq, cgt, cge, lI_add, lI_sub, lI_mul, jadd, jsub, jmul, jneg, jtol, b010, b011, pv_2t, Int.toNat_natCast, Option.some.injEq, exists_eq_left', if_true, if_false, M0, e39]
          exact q
        · have q := p63 99 (by omega)
          refine vs_ok 3 ?_
          rw [show ((gRes 245).drop 50).take 3 = [.iload 2, .iconst 100, .if_icmp .ne 54] from rfl]
          simp (disch := omega) only [vs_iconst, vs_if_icmp, vs_iload2, vs_nil, gv_0, gv_1, gv_2, gv_3, pv_0, pv_1, va_rf_s, Nat.reduceDiv, Nat.reduceMod, Nat.reduceAdd, Nat.reduceMul, Int.reduceToNat, true_and, and_true, and_self, cP_eq, cP_ne, cP_lt, cP_ge, cP_gt, cP_le, eL_i, eL_l, eL_r, eL_n, Option.toList_none, Option.toList_some, List.nil_append, List.cons_append, kkI, llI, nnI, rrI, jjI, kkJ, llJ, nnJ, rrJ, iiJ, zIIs, zJJs, nEF, nET, and_false, false_and, jmin, jmax, catS_n, catS_i, catS_r, catS_l, Nat.reduceLeDiff, j1eq1, n21, jt0, jt1, Bool.false_eq_true, Classical.not_not, true_or, or_true, false_or, or_false, true_imp_iff, false_imp_iff, not_true_eq_false, not_false_eq_true, jif0, jif1, jifb, ltT, ltF, leT, leF, eqT, eqF, jlt, jle, jeq, jlt0, jle0, jeq0, jge0, jgt0, jinB, jnat, clt, cle, ceq, cgt, cge, lI_add, lI_sub, lI_mul, jadd, jsub, jmul, jneg, jtol, b010, b011, pv_2t, Int.toNat_natCast, Option.some.injEq, exists_eq_left', if_true, if_false]
          refine vs_ok 4 ?_
          rw [show ((gRes 245).drop 54).take 4 = [.aload 0, .getfield 12390, .iconst 100, .if_icmp .ge 61] from rfl]
          simp (disch := omega) only [vs_iconst, vs_if_icmp, vs_getfield, vs_aload0, vs_nil, gv_0, gv_1, gv_2, gv_3, pv_0, pv_1, va_rf_s, Nat.reduceDiv, Nat.reduceMod, Nat.reduceAdd, Nat.reduceMul, Int.reduceToNat, true_and, and_true, and_self, cP_eq, cP_ne, cP_lt, cP_ge, cP_gt, cP_le, eL_i, eL_l, eL_r, eL_n, Option.toList_none, Option.toList_some, List.nil_append, List.cons_append, kkI, llI, nnI, rrI, jjI, kkJ, llJ, nnJ, rrJ, iiJ, zIIs, zJJs, nEF, nET, and_false, false_and, jmin, jmax, catS_n, catS_i, catS_r, catS_l, Nat.reduceLeDiff, j1eq1, n21, jt0, jt1, Bool.false_eq_true, Classical.not_not, true_or, or_true, false_or, or_false, true_imp_iff, false_imp_iff, not_true_eq_false, not_false_eq_true, jif0, jif1, jifb, ltT, ltF, leT, leF, eqT, eqF, jlt, jle, jeq, jlt0, jle0, jeq0, jge0, jgt0, jinB, jnat, clt, cle, ceq, cgt, cge, lI_add, lI_sub, lI_mul, jadd, jsub, jmul, jneg, jtol, b010, b011, pv_2t, Int.toNat_natCast, Option.some.injEq, exists_eq_left', if_true, if_false, M0, e39]
          refine vs_ok 1 ?_
          rw [show ((gRes 245).drop 61).take 1 = [.iconst 99] from rfl]
          simp (disch := omega) only [vs_iconst, vs_nil, gv_0, gv_1, gv_2, gv_3, pv_0, pv_1, va_rf_s, Nat.reduceDiv, Nat.reduceMod, Nat.reduceAdd, Nat.reduceMul, Int.reduceToNat, true_and, and_true, and_self, cP_eq, cP_ne, cP_lt, cP_ge, cP_gt, cP_le, eL_i, eL_l, eL_r, eL_n, Option.toList_none, Option.toList_some, List.nil_append, List.cons_append, kkI, llI, nnI, rrI, jjI, kkJ, llJ, nnJ, rrJ, iiJ, zIIs, zJJs, nEF, nET, and_false, false_and, jmin, jmax, catS_n, catS_i, catS_r, catS_l, Nat.reduceLeDiff, j1eq1, n21, jt0, jt1, Bool.false_eq_true, Classical.not_not, true_or, or_true, false_or, or_false, true_imp_iff, false_imp_iff, not_true_eq_false, not_false_eq_true, jif0, jif1, jifb, ltT, ltF, leT, leF, eqT, eqF, jlt, jle, jeq, jlt0, jle0, jeq0, jge0, jgt0, jinB, jnat, clt, cle, ceq, cgt, cge, lI_add, lI_sub, lI_mul, jadd, jsub, jmul, jneg, jtol, b010, b011, pv_2t, Int.toNat_natCast, Option.some.injEq, exists_eq_left', if_true, if_false]
          exact q
    have lpa : ∀ (a : Nat), a ≤ km → psF X KX a = psF X KX km → PW (d + 1) 245 40 [some (.ref m), some (.int l1), some (.int (iI a)), none, none] [] g0 Q := by
      intro a
      induction a with
      | zero =>
        intro _ hp
        refine vs_ok 2 ?_
        rw [show ((gRes 245).drop 40).take 2 = [.iload 2, .ifCond .le 50] from rfl]
        simp (disch := omega) only [vs_ifCond, vs_iload2, vs_nil, gv_0, gv_1, gv_2, gv_3, pv_0, pv_1, va_rf_s, Nat.reduceDiv, Nat.reduceMod, Nat.reduceAdd, Nat.reduceMul, Int.reduceToNat, true_and, and_true, and_self, cP_eq, cP_ne, cP_lt, cP_ge, cP_gt, cP_le, eL_i, eL_l, eL_r, eL_n, Option.toList_none, Option.toList_some, List.nil_append, List.cons_append, kkI, llI, nnI, rrI, jjI, kkJ, llJ, nnJ, rrJ, iiJ, zIIs, zJJs, nEF, nET, and_false, false_and, jmin, jmax, catS_n, catS_i, catS_r, catS_l, Nat.reduceLeDiff, j1eq1, n21, jt0, jt1, Bool.false_eq_true, Classical.not_not, true_or, or_true, false_or, or_false, true_imp_iff, false_imp_iff, not_true_eq_false, not_false_eq_true, jif0, jif1, jifb, ltT, ltF, leT, leF, eqT, eqF, jlt, jle, jeq, jlt0, jle0, jeq0, jge0, jgt0, jinB, jnat, clt, cle, ceq, cgt, cge, lI_add, lI_sub, lI_mul, jadd, jsub, jmul, jneg, jtol, b010, b011, pv_2t, Int.toNat_natCast, Option.some.injEq, exists_eq_left', if_true, if_false]
        exact p50 0 (by omega) hp.symm
      | succ a ih =>
        intro ha hp
        have e1 : ((a + 1 : Nat) : Int) - 1 = (a : Int) := by omega
        have ep : psF X KX (a + 1) = if adP X (KX a) then psF X KX a else a + 1 := rfl
        refine vs_ok 2 ?_
        rw [show ((gRes 245).drop 40).take 2 = [.iload 2, .ifCond .le 50] from rfl]
        simp (disch := omega) only [vs_ifCond, vs_iload2, vs_nil, gv_0, gv_1, gv_2, gv_3, pv_0, pv_1, va_rf_s, Nat.reduceDiv, Nat.reduceMod, Nat.reduceAdd, Nat.reduceMul, Int.reduceToNat, true_and, and_true, and_self, cP_eq, cP_ne, cP_lt, cP_ge, cP_gt, cP_le, eL_i, eL_l, eL_r, eL_n, Option.toList_none, Option.toList_some, List.nil_append, List.cons_append, kkI, llI, nnI, rrI, jjI, kkJ, llJ, nnJ, rrJ, iiJ, zIIs, zJJs, nEF, nET, and_false, false_and, jmin, jmax, catS_n, catS_i, catS_r, catS_l, Nat.reduceLeDiff, j1eq1, n21, jt0, jt1, Bool.false_eq_true, Classical.not_not, true_or, or_true, false_or, or_false, true_imp_iff, false_imp_iff, not_true_eq_false, not_false_eq_true, jif0, jif1, jifb, ltT, ltF, leT, leF, eqT, eqF, jlt, jle, jeq, jlt0, jle0, jeq0, jge0, jgt0, jinB, jnat, clt, cle, ceq, cgt, cge, lI_add, lI_sub, lI_mul, jadd, jsub, jmul, jneg, jtol, b010, b011, pv_2t, Int.toNat_natCast, Option.some.injEq, exists_eq_left', if_true, if_false]
        refine vs_ok 4 ?_
        rw [show ((gRes 245).drop 42).take 4 = [.aload 0, .iload 2, .iconst 1, .isub] from rfl]
        simp (disch := omega) only [vs_isub, vs_iconst, vs_aload0, vs_iload2, vs_nil, gv_0, gv_1, gv_2, gv_3, pv_0, pv_1, va_rf_s, Nat.reduceDiv, Nat.reduceMod, Nat.reduceAdd, Nat.reduceMul, Int.reduceToNat, true_and, and_true, and_self, cP_eq, cP_ne, cP_lt, cP_ge, cP_gt, cP_le, eL_i, eL_l, eL_r, eL_n, Option.toList_none, Option.toList_some, List.nil_append, List.cons_append, kkI, llI, nnI, rrI, jjI, kkJ, llJ, nnJ, rrJ, iiJ, zIIs, zJJs, nEF, nET, and_false, false_and, jmin, jmax, catS_n, catS_i, catS_r, catS_l, Nat.reduceLeDiff, j1eq1, n21, jt0, jt1, Bool.false_eq_true, Classical.not_not, true_or, or_true, false_or, or_false, true_imp_iff, false_imp_iff, not_true_eq_false, not_false_eq_true, jif0, jif1, jifb, ltT, ltF, leT, leF, eqT, eqF, jlt, jle, jeq, jlt0, jle0, jeq0, jge0, jgt0, jinB, jnat, clt, cle, ceq, cgt, cge, lI_add, lI_sub, lI_mul, jadd, jsub, jmul, jneg, jtol, b010, b011, pv_2t, Int.toNat_natCast, Option.some.injEq, exists_eq_left', if_true, if_false, e1]
        refine PW.iv rfl rfl rfl M0.1 M0.2 (le_b rfl) (le_b rfl) ?_
        refine t_M_isAhead (k := a) (X := toI X) (K := toI (KX a)) hm0 (by omega) (fun i hi => ⟨n64 (X0 i (by omega)).1, (X0 i (by omega)).2⟩) (fun i hi => ⟨n64 (kk0 a (by omega) i (by omega)).1.1, (kk0 a (by omega) i (by omega)).1.2⟩) ⟨rfl, ⟨rfl, rfl⟩, ?_⟩
        by_cases c : adP X (KX a)
        · rw [if_pos c]
          rw [ep, if_pos c] at hp
          have e2 : ((a + 1 : Nat) : Int) + -1 = (a : Int) := by omega
          refine vs_ok 1 ?_
          rw [show ((gRes 245).drop 47).take 1 = [.ifCond .eq 50] from rfl]
          simp (disch := omega) only [vs_ifCond, vs_nil, gv_0, gv_1, gv_2, gv_3, pv_0, pv_1, va_rf_s, Nat.reduceDiv, Nat.reduceMod, Nat.reduceAdd, Nat.reduceMul, Int.reduceToNat, true_and, and_true, and_self, cP_eq, cP_ne, cP_lt, cP_ge, cP_gt, cP_le, eL_i, eL_l, eL_r, eL_n, Option.toList_none, Option.toList_some, List.nil_append, List.cons_append, kkI, llI, nnI, rrI, jjI, kkJ, llJ, nnJ, rrJ, iiJ, zIIs, zJJs, nEF, nET, and_false, false_and, jmin, jmax, catS_n, catS_i, catS_r, catS_l, Nat.reduceLeDiff, j1eq1, n21, jt0, jt1, Bool.false_eq_true, Classical.not_not, true_or, or_true, false_or, or_false, true_imp_iff, false_imp_iff, not_true_eq_false, not_false_eq_true, jif0, jif1, jifb, ltT, ltF, leT, leF, eqT, eqF, jlt, jle, jeq, jlt0, jle0, jeq0, jge0, jgt0, jinB, jnat, clt, cle, ceq, cgt, cge, lI_add, lI_sub, lI_mul, jadd, jsub, jmul, jneg, jtol, b010, b011, pv_2t, Int.toNat_natCast, Option.some.injEq, exists_eq_left', if_true, if_false]
          refine vs_ok 2 ?_
          rw [show ((gRes 245).drop 48).take 2 = [.iinc 2 (-1), .goto 40] from rfl]
          simp (disch := omega) only [vs_goto, vs_iinc2n, vs_iinc2i, vs_iinc2r, vs_iinc2l, vs_nil, gv_0, gv_1, gv_2, gv_3, pv_0, pv_1, va_rf_s, Nat.reduceDiv, Nat.reduceMod, Nat.reduceAdd, Nat.reduceMul, Int.reduceToNat, true_and, and_true, and_self, cP_eq, cP_ne, cP_lt, cP_ge, cP_gt, cP_le, eL_i, eL_l, eL_r, eL_n, Option.toList_none, Option.toList_some, List.nil_append, List.cons_append, kkI, llI, nnI, rrI, jjI, kkJ, llJ, nnJ, rrJ, iiJ, zIIs, zJJs, nEF, nET, and_false, false_and, jmin, jmax, catS_n, catS_i, catS_r, catS_l, Nat.reduceLeDiff, j1eq1, n21, jt0, jt1, Bool.false_eq_true, Classical.not_not, true_or, or_true, false_or, or_false, true_imp_iff, false_imp_iff, not_true_eq_false, not_false_eq_true, jif0, jif1, jifb, ltT, ltF, leT, leF, eqT, eqF, jlt, jle, jeq, jlt0, jle0, jeq0, jge0, jgt0, jinB, jnat, clt, cle, ceq, cgt, cge, lI_add, lI_sub, lI_mul, jadd, jsub, jmul, jneg, jtol, b010, b011, pv_2t, Int.toNat_natCast, Option.some.injEq, exists_eq_left', if_true, if_false, e2]
          exact ih (by omega) hp
        · rw [if_neg c]
          rw [ep, if_neg c] at hp
          refine vs_ok 1 ?_
          rw [show ((gRes 245).drop 47).take 1 = [.ifCond .eq 50] from rfl]
          simp (disch := omega) only [vs_ifCond, vs_nil, gv_0, gv_1, gv_2, gv_3, pv_0, pv_1, va_rf_s, Nat.reduceDiv, Nat.reduceMod, Nat.reduceAdd, Nat.reduceMul, Int.reduceToNat, true_and, and_true, and_self, cP_eq, cP_ne, cP_lt, cP_ge, cP_gt, cP_le, eL_i, eL_l, eL_r, eL_n, Option.toList_none, Option.toList_some, List.nil_append, List.cons_append, kkI, llI, nnI, rrI, jjI, kkJ, llJ, nnJ, rrJ, iiJ, zIIs, zJJs, nEF, nET, and_false, false_and, jmin, jmax, catS_n, catS_i, catS_r, catS_l, Nat.reduceLeDiff, j1eq1, n21, jt0, jt1, Bool.false_eq_true, Classical.not_not, true_or, or_true, false_or, or_false, true_imp_iff, false_imp_iff, not_true_eq_false, not_false_eq_true, jif0, jif1, jifb, ltT, ltF, leT, leF, eqT, eqF, jlt, jle, jeq, jlt0, jle0, jeq0, jge0, jgt0, jinB, jnat, clt, cle, ceq, cgt, cge, lI_add, lI_sub, lI_mul, jadd, jsub, jmul, jneg, jtol, b010, b011, pv_2t, Int.toNat_natCast, Option.some.injEq, exists_eq_left', if_true, if_false]
          exact p50 (a + 1) ha hp.symm
    exact lpa km (Nat.le_refl km) rfl
  -- the first FACE that differs
  have lp0 : ∀ (k v : Nat), k + v = 60 → fdF (toI X) (toI Y) k v = fdF (toI X) (toI Y) 60 0 → PW (d + 1) 245 2 [some (.ref m), some (.int (iI v)), none, none, none] [] h Q := by
    have p16 : ∀ v, v ≤ 60 → v = fdF (toI X) (toI Y) 60 0 → PW (d + 1) 245 16 [some (.ref m), some (.int (iI v)), none, none, none] [] h Q := by
      intro v hv hF
      have Xv := hX v (by omega)
      have Yv := hY v (by omega)
      by_cases c1 : p = q
      · have ci : (p : Int) = (q : Int) := by omega
        by_cases c2 : X v < Y v
        · have no : ¬ tnP p q X Y := fun z => z ⟨c1, by rw [← hF]; show (X v : Int) < (Y v : Int); omega⟩
          refine vs_ok 5 ?_
          rw [show ((gRes 245).drop 16).take 5 = [.aload 0, .getfield 12410, .aload 0, .getfield 12420, .if_icmp .ne 31] from rfl]
          simp (disch := omega) only [vs_if_icmp, vs_getfield, vs_aload0, vs_nil, gv_0, gv_1, gv_2, gv_3, pv_0, pv_1, va_rf_s, Nat.reduceDiv, Nat.reduceMod, Nat.reduceAdd, Nat.reduceMul, Int.reduceToNat, true_and, and_true, and_self, cP_eq, cP_ne, cP_lt, cP_ge, cP_gt, cP_le, eL_i, eL_l, eL_r, eL_n, Option.toList_none, Option.toList_some, List.nil_append, List.cons_append, kkI, llI, nnI, rrI, jjI, kkJ, llJ, nnJ, rrJ, iiJ, zIIs, zJJs, nEF, nET, and_false, false_and, jmin, jmax, catS_n, catS_i, catS_r, catS_l, Nat.reduceLeDiff, j1eq1, n21, jt0, jt1, Bool.false_eq_true, Classical.not_not, true_or, or_true, false_or, or_false, true_imp_iff, false_imp_iff, not_true_eq_false, not_false_eq_true, jif0, jif1, jifb, ltT, ltF, leT, leF, eqT, eqF, jlt, jle, jeq, jlt0, jle0, jeq0, jge0, jgt0, jinB, jnat, clt, cle, ceq, cgt, cge, lI_add, lI_sub, lI_mul, jadd, jsub, jmul, jneg, jtol, b010, b011, pv_2t, Int.toNat_natCast, Option.some.injEq, exists_eq_left', if_true, if_false, M, h41, h42]
          refine vs_ok 9 ?_
          rw [show ((gRes 245).drop 21).take 9 = [.aload 0, .getfield 12342, .iload 1, .iaload, .aload 0, .getfield 12352, .iload 1, .iaload, .if_icmp .ge 31] from rfl]
          simp (disch := omega) only [vs_if_icmp, vs_getfield, vs_iaload, vs_aload0, vs_iload1, vs_nil, gv_0, gv_1, gv_2, gv_3, pv_0, pv_1, va_rf_s, Nat.reduceDiv, Nat.reduceMod, Nat.reduceAdd, Nat.reduceMul, Int.reduceToNat, true_and, and_true, and_self, cP_eq, cP_ne, cP_lt, cP_ge, cP_gt, cP_le, eL_i, eL_l, eL_r, eL_n, Option.toList_none, Option.toList_some, List.nil_append, List.cons_append, kkI, llI, nnI, rrI, jjI, kkJ, llJ, nnJ, rrJ, iiJ, zIIs, zJJs, nEF, nET, and_false, false_and, jmin, jmax, catS_n, catS_i, catS_r, catS_l, Nat.reduceLeDiff, j1eq1, n21, jt0, jt1, Bool.false_eq_true, Classical.not_not, true_or, or_true, false_or, or_false, true_imp_iff, false_imp_iff, not_true_eq_false, not_false_eq_true, jif0, jif1, jifb, ltT, ltF, leT, leF, eqT, eqF, jlt, jle, jeq, jlt0, jle0, jeq0, jge0, jgt0, jinB, jnat, clt, cle, ceq, cgt, cge, lI_add, lI_sub, lI_mul, jadd, jsub, jmul, jneg, jtol, b010, b011, pv_2t, Int.toNat_natCast, Option.some.injEq, exists_eq_left', if_true, if_false, M, A22, A23, Xv.2, Yv.2]
          refine vs_ok 1 ?_
          rw [show ((gRes 245).drop 30).take 1 = [.return_] from rfl]
          simp (disch := omega) only [vs_return_, vs_nil, gv_0, gv_1, gv_2, gv_3, pv_0, pv_1, va_rf_s, Nat.reduceDiv, Nat.reduceMod, Nat.reduceAdd, Nat.reduceMul, Int.reduceToNat, true_and, and_true, and_self, cP_eq, cP_ne, cP_lt, cP_ge, cP_gt, cP_le, eL_i, eL_l, eL_r, eL_n, Option.toList_none, Option.toList_some, List.nil_append, List.cons_append, kkI, llI, nnI, rrI, jjI, kkJ, llJ, nnJ, rrJ, iiJ, zIIs, zJJs, nEF, nET, and_false, false_and, jmin, jmax, catS_n, catS_i, catS_r, catS_l, Nat.reduceLeDiff, j1eq1, n21, jt0, jt1, Bool.false_eq_true, Classical.not_not, true_or, or_true, false_or, or_false, true_imp_iff, false_imp_iff, not_true_eq_false, not_false_eq_true, jif0, jif1, jifb, ltT, ltF, leT, leF, eqT, eqF, jlt, jle, jeq, jlt0, jle0, jeq0, jge0, jgt0, jinB, jnat, clt, cle, ceq, cgt, cge, lI_add, lI_sub, lI_mul, jadd, jsub, jmul, jneg, jtol, b010, b011, pv_2t, Int.toNat_natCast, Option.some.injEq, exists_eq_left', if_true, if_false, show gRc 245 = 0 from rfl]
          exact q0 no
        · have yes : tnP p q X Y := fun z => c2 (by have := z.2; rw [← hF] at this; change (X v : Int) < (Y v : Int) at this; omega)
          refine vs_ok 5 ?_
          rw [show ((gRes 245).drop 16).take 5 = [.aload 0, .getfield 12410, .aload 0, .getfield 12420, .if_icmp .ne 31] from rfl]
          simp (disch := omega) only [vs_if_icmp, vs_getfield, vs_aload0, vs_nil, gv_0, gv_1, gv_2, gv_3, pv_0, pv_1, va_rf_s, Nat.reduceDiv, Nat.reduceMod, Nat.reduceAdd, Nat.reduceMul, Int.reduceToNat, true_and, and_true, and_self, cP_eq, cP_ne, cP_lt, cP_ge, cP_gt, cP_le, eL_i, eL_l, eL_r, eL_n, Option.toList_none, Option.toList_some, List.nil_append, List.cons_append, kkI, llI, nnI, rrI, jjI, kkJ, llJ, nnJ, rrJ, iiJ, zIIs, zJJs, nEF, nET, and_false, false_and, jmin, jmax, catS_n, catS_i, catS_r, catS_l, Nat.reduceLeDiff, j1eq1, n21, jt0, jt1, Bool.false_eq_true, Classical.not_not, true_or, or_true, false_or, or_false, true_imp_iff, false_imp_iff, not_true_eq_false, not_false_eq_true, jif0, jif1, jifb, ltT, ltF, leT, leF, eqT, eqF, jlt, jle, jeq, jlt0, jle0, jeq0, jge0, jgt0, jinB, jnat, clt, cle, ceq, cgt, cge, lI_add, lI_sub, lI_mul, jadd, jsub, jmul, jneg, jtol, b010, b011, pv_2t, Int.toNat_natCast, Option.some.injEq, exists_eq_left', if_true, if_false, M, h41, h42]
          refine vs_ok 9 ?_
          rw [show ((gRes 245).drop 21).take 9 = [.aload 0, .getfield 12342, .iload 1, .iaload, .aload 0, .getfield 12352, .iload 1, .iaload, .if_icmp .ge 31] from rfl]
          simp (disch := omega) only [vs_if_icmp, vs_getfield, vs_iaload, vs_aload0, vs_iload1, vs_nil, gv_0, gv_1, gv_2, gv_3, pv_0, pv_1, va_rf_s, Nat.reduceDiv, Nat.reduceMod, Nat.reduceAdd, Nat.reduceMul, Int.reduceToNat, true_and, and_true, and_self, cP_eq, cP_ne, cP_lt, cP_ge, cP_gt, cP_le, eL_i, eL_l, eL_r, eL_n, Option.toList_none, Option.toList_some, List.nil_append, List.cons_append, kkI, llI, nnI, rrI, jjI, kkJ, llJ, nnJ, rrJ, iiJ, zIIs, zJJs, nEF, nET, and_false, false_and, jmin, jmax, catS_n, catS_i, catS_r, catS_l, Nat.reduceLeDiff, j1eq1, n21, jt0, jt1, Bool.false_eq_true, Classical.not_not, true_or, or_true, false_or, or_false, true_imp_iff, false_imp_iff, not_true_eq_false, not_false_eq_true, jif0, jif1, jifb, ltT, ltF, leT, leF, eqT, eqF, jlt, jle, jeq, jlt0, jle0, jeq0, jge0, jgt0, jinB, jnat, clt, cle, ceq, cgt, cge, lI_add, lI_sub, lI_mul, jadd, jsub, jmul, jneg, jtol, b010, b011, pv_2t, Int.toNat_natCast, Option.some.injEq, exists_eq_left', if_true, if_false, M, A22, A23, Xv.2, Yv.2]
          exact p31 yes _
      · have ci : ¬ (p : Int) = (q : Int) := by omega
        refine vs_ok 5 ?_
        rw [show ((gRes 245).drop 16).take 5 = [.aload 0, .getfield 12410, .aload 0, .getfield 12420, .if_icmp .ne 31] from rfl]
        simp (disch := omega) only [vs_if_icmp, vs_getfield, vs_aload0, vs_nil, gv_0, gv_1, gv_2, gv_3, pv_0, pv_1, va_rf_s, Nat.reduceDiv, Nat.reduceMod, Nat.reduceAdd, Nat.reduceMul, Int.reduceToNat, true_and, and_true, and_self, cP_eq, cP_ne, cP_lt, cP_ge, cP_gt, cP_le, eL_i, eL_l, eL_r, eL_n, Option.toList_none, Option.toList_some, List.nil_append, List.cons_append, kkI, llI, nnI, rrI, jjI, kkJ, llJ, nnJ, rrJ, iiJ, zIIs, zJJs, nEF, nET, and_false, false_and, jmin, jmax, catS_n, catS_i, catS_r, catS_l, Nat.reduceLeDiff, j1eq1, n21, jt0, jt1, Bool.false_eq_true, Classical.not_not, true_or, or_true, false_or, or_false, true_imp_iff, false_imp_iff, not_true_eq_false, not_false_eq_true, jif0, jif1, jifb, ltT, ltF, leT, leF, eqT, eqF, jlt, jle, jeq, jlt0, jle0, jeq0, jge0, jgt0, jinB, jnat, clt, cle, ceq, cgt, cge, lI_add, lI_sub, lI_mul, jadd, jsub, jmul, jneg, jtol, b010, b011, pv_2t, Int.toNat_natCast, Option.some.injEq, exists_eq_left', if_true, if_false, M, h41, h42]
        exact p31 (fun z => c1 z.1) _
    intro k
    induction k with
    | zero =>
      intro v hv hF
      refine vs_ok 3 ?_
      rw [show ((gRes 245).drop 2).take 3 = [.iload 1, .iconst 60, .if_icmp .ge 16] from rfl]
      simp (disch := omega) only [vs_iconst, vs_if_icmp, vs_iload1, vs_nil, gv_0, gv_1, gv_2, gv_3, pv_0, pv_1, va_rf_s, Nat.reduceDiv, Nat.reduceMod, Nat.reduceAdd, Nat.reduceMul, Int.reduceToNat, true_and, and_true, and_self, cP_eq, cP_ne, cP_lt, cP_ge, cP_gt, cP_le, eL_i, eL_l, eL_r, eL_n, Option.toList_none, Option.toList_some, List.nil_append, List.cons_append, kkI, llI, nnI, rrI, jjI, kkJ, llJ, nnJ, rrJ, iiJ, zIIs, zJJs, nEF, nET, and_false, false_and, jmin, jmax, catS_n, catS_i, catS_r, catS_l, Nat.reduceLeDiff, j1eq1, n21, jt0, jt1, Bool.false_eq_true, Classical.not_not, true_or, or_true, false_or, or_false, true_imp_iff, false_imp_iff, not_true_eq_false, not_false_eq_true, jif0, jif1, jifb, ltT, ltF, leT, leF, eqT, eqF, jlt, jle, jeq, jlt0, jle0, jeq0, jge0, jgt0, jinB, jnat, clt, cle, ceq, cgt, cge, lI_add, lI_sub, lI_mul, jadd, jsub, jmul, jneg, jtol, b010, b011, pv_2t, Int.toNat_natCast, Option.some.injEq, exists_eq_left', if_true, if_false]
      exact p16 v (by omega) hF
    | succ k ih =>
      intro v hv hF
      have Xv := hX v (by omega)
      have Yv := hY v (by omega)
      have ef : fdF (toI X) (toI Y) (k + 1) v = if toI X v = toI Y v then fdF (toI X) (toI Y) k (v + 1) else v := rfl
      by_cases c : (X v : Int) = (Y v : Int)
      · rw [ef, if_pos c] at hF
        refine vs_ok 3 ?_
        rw [show ((gRes 245).drop 2).take 3 = [.iload 1, .iconst 60, .if_icmp .ge 16] from rfl]
        simp (disch := omega) only [vs_iconst, vs_if_icmp, vs_iload1, vs_nil, gv_0, gv_1, gv_2, gv_3, pv_0, pv_1, va_rf_s, Nat.reduceDiv, Nat.reduceMod, Nat.reduceAdd, Nat.reduceMul, Int.reduceToNat, true_and, and_true, and_self, cP_eq, cP_ne, cP_lt, cP_ge, cP_gt, cP_le, eL_i, eL_l, eL_r, eL_n, Option.toList_none, Option.toList_some, List.nil_append, List.cons_append, kkI, llI, nnI, rrI, jjI, kkJ, llJ, nnJ, rrJ, iiJ, zIIs, zJJs, nEF, nET, and_false, false_and, jmin, jmax, catS_n, catS_i, catS_r, catS_l, Nat.reduceLeDiff, j1eq1, n21, jt0, jt1, Bool.false_eq_true, Classical.not_not, true_or, or_true, false_or, or_false, true_imp_iff, false_imp_iff, not_true_eq_false, not_false_eq_true, jif0, jif1, jifb, ltT, ltF, leT, leF, eqT, eqF, jlt, jle, jeq, jlt0, jle0, jeq0, jge0, jgt0, jinB, jnat, clt, cle, ceq, cgt, cge, lI_add, lI_sub, lI_mul, jadd, jsub, jmul, jneg, jtol, b010, b011, pv_2t, Int.toNat_natCast, Option.some.injEq, exists_eq_left', if_true, if_false]
        refine vs_ok 9 ?_
        rw [show ((gRes 245).drop 5).take 9 = [.aload 0, .getfield 12342, .iload 1, .iaload, .aload 0, .getfield 12352, .iload 1, .iaload, .if_icmp .ne 16] from rfl]
        simp (disch := omega) only [vs_if_icmp, vs_getfield, vs_iaload, vs_aload0, vs_iload1, vs_nil, gv_0, gv_1, gv_2, gv_3, pv_0, pv_1, va_rf_s, Nat.reduceDiv, Nat.reduceMod, Nat.reduceAdd, Nat.reduceMul, Int.reduceToNat, true_and, and_true, and_self, cP_eq, cP_ne, cP_lt, cP_ge, cP_gt, cP_le, eL_i, eL_l, eL_r, eL_n, Option.toList_none, Option.toList_some, List.nil_append, List.cons_append, kkI, llI, nnI, rrI, jjI, kkJ, llJ, nnJ, rrJ, iiJ, zIIs, zJJs, nEF, nET, and_false, false_and, jmin, jmax, catS_n, catS_i, catS_r, catS_l, Nat.reduceLeDiff, j1eq1, n21, jt0, jt1, Bool.false_eq_true, Classical.not_not, true_or, or_true, false_or, or_false, true_imp_iff, false_imp_iff, not_true_eq_false, not_false_eq_true, jif0, jif1, jifb, ltT, ltF, leT, leF, eqT, eqF, jlt, jle, jeq, jlt0, jle0, jeq0, jge0, jgt0, jinB, jnat, clt, cle, ceq, cgt, cge, lI_add, lI_sub, lI_mul, jadd, jsub, jmul, jneg, jtol, b010, b011, pv_2t, Int.toNat_natCast, Option.some.injEq, exists_eq_left', if_true, if_false, M, A22, A23, Xv.2, Yv.2]
        refine vs_ok 2 ?_
        rw [show ((gRes 245).drop 14).take 2 = [.iinc 1 1, .goto 2] from rfl]
        simp (disch := omega) only [vs_goto, vs_iinc1n, vs_iinc1i, vs_iinc1r, vs_iinc1l, vs_nil, gv_0, gv_1, gv_2, gv_3, pv_0, pv_1, va_rf_s, Nat.reduceDiv, Nat.reduceMod, Nat.reduceAdd, Nat.reduceMul, Int.reduceToNat, true_and, and_true, and_self, cP_eq, cP_ne, cP_lt, cP_ge, cP_gt, cP_le, eL_i, eL_l, eL_r, eL_n, Option.toList_none, Option.toList_some, List.nil_append, List.cons_append, kkI, llI, nnI, rrI, jjI, kkJ, llJ, nnJ, rrJ, iiJ, zIIs, zJJs, nEF, nET, and_false, false_and, jmin, jmax, catS_n, catS_i, catS_r, catS_l, Nat.reduceLeDiff, j1eq1, n21, jt0, jt1, Bool.false_eq_true, Classical.not_not, true_or, or_true, false_or, or_false, true_imp_iff, false_imp_iff, not_true_eq_false, not_false_eq_true, jif0, jif1, jifb, ltT, ltF, leT, leF, eqT, eqF, jlt, jle, jeq, jlt0, jle0, jeq0, jge0, jgt0, jinB, jnat, clt, cle, ceq, cgt, cge, lI_add, lI_sub, lI_mul, jadd, jsub, jmul, jneg, jtol, b010, b011, pv_2t, Int.toNat_natCast, Option.some.injEq, exists_eq_left', if_true, if_false]
        exact ih (v + 1) (by omega) hF
      · rw [ef, if_neg c] at hF
        refine vs_ok 3 ?_
        rw [show ((gRes 245).drop 2).take 3 = [.iload 1, .iconst 60, .if_icmp .ge 16] from rfl]
        simp (disch := omega) only [vs_iconst, vs_if_icmp, vs_iload1, vs_nil, gv_0, gv_1, gv_2, gv_3, pv_0, pv_1, va_rf_s, Nat.reduceDiv, Nat.reduceMod, Nat.reduceAdd, Nat.reduceMul, Int.reduceToNat, true_and, and_true, and_self, cP_eq, cP_ne, cP_lt, cP_ge, cP_gt, cP_le, eL_i, eL_l, eL_r, eL_n, Option.toList_none, Option.toList_some, List.nil_append, List.cons_append, kkI, llI, nnI, rrI, jjI, kkJ, llJ, nnJ, rrJ, iiJ, zIIs, zJJs, nEF, nET, and_false, false_and, jmin, jmax, catS_n, catS_i, catS_r, catS_l, Nat.reduceLeDiff, j1eq1, n21, jt0, jt1, Bool.false_eq_true, Classical.not_not, true_or, or_true, false_or, or_false, true_imp_iff, false_imp_iff, not_true_eq_false, not_false_eq_true, jif0, jif1, jifb, ltT, ltF, leT, leF, eqT, eqF, jlt, jle, jeq, jlt0, jle0, jeq0, jge0, jgt0, jinB, jnat, clt, cle, ceq, cgt, cge, lI_add, lI_sub, lI_mul, jadd, jsub, jmul, jneg, jtol, b010, b011, pv_2t, Int.toNat_natCast, Option.some.injEq, exists_eq_left', if_true, if_false]
        refine vs_ok 9 ?_
        rw [show ((gRes 245).drop 5).take 9 = [.aload 0, .getfield 12342, .iload 1, .iaload, .aload 0, .getfield 12352, .iload 1, .iaload, .if_icmp .ne 16] from rfl]
        simp (disch := omega) only [vs_if_icmp, vs_getfield, vs_iaload, vs_aload0, vs_iload1, vs_nil, gv_0, gv_1, gv_2, gv_3, pv_0, pv_1, va_rf_s, Nat.reduceDiv, Nat.reduceMod, Nat.reduceAdd, Nat.reduceMul, Int.reduceToNat, true_and, and_true, and_self, cP_eq, cP_ne, cP_lt, cP_ge, cP_gt, cP_le, eL_i, eL_l, eL_r, eL_n, Option.toList_none, Option.toList_some, List.nil_append, List.cons_append, kkI, llI, nnI, rrI, jjI, kkJ, llJ, nnJ, rrJ, iiJ, zIIs, zJJs, nEF, nET, and_false, false_and, jmin, jmax, catS_n, catS_i, catS_r, catS_l, Nat.reduceLeDiff, j1eq1, n21, jt0, jt1, Bool.false_eq_true, Classical.not_not, true_or, or_true, false_or, or_false, true_imp_iff, false_imp_iff, not_true_eq_false, not_false_eq_true, jif0, jif1, jifb, ltT, ltF, leT, leF, eqT, eqF, jlt, jle, jeq, jlt0, jle0, jeq0, jge0, jgt0, jinB, jnat, clt, cle, ceq, cgt, cge, lI_add, lI_sub, lI_mul, jadd, jsub, jmul, jneg, jtol, b010, b011, pv_2t, Int.toNat_natCast, Option.some.injEq, exists_eq_left', if_true, if_false, M, A22, A23, Xv.2, Yv.2]
        exact p16 v (by omega) hF
  refine vs_ok 2 ?_
  rw [show ((gRes 245).drop 0).take 2 = [.iconst 0, .istore 1] from rfl]
  simp (disch := omega) only [vs_iconst, vs_istore1n, vs_istore1i, vs_istore1r, vs_istore1l, vs_nil, gv_0, gv_1, gv_2, gv_3, pv_0, pv_1, va_rf_s, Nat.reduceDiv, Nat.reduceMod, Nat.reduceAdd, Nat.reduceMul, Int.reduceToNat, true_and, and_true, and_self, cP_eq, cP_ne, cP_lt, cP_ge, cP_gt, cP_le, eL_i, eL_l, eL_r, eL_n, Option.toList_none, Option.toList_some, List.nil_append, List.cons_append, kkI, llI, nnI, rrI, jjI, kkJ, llJ, nnJ, rrJ, iiJ, zIIs, zJJs, nEF, nET, and_false, false_and, jmin, jmax, catS_n, catS_i, catS_r, catS_l, Nat.reduceLeDiff, j1eq1, n21, jt0, jt1, Bool.false_eq_true, Classical.not_not, true_or, or_true, false_or, or_false, true_imp_iff, false_imp_iff, not_true_eq_false, not_false_eq_true, jif0, jif1, jifb, ltT, ltF, leT, leF, eqT, eqF, jlt, jle, jeq, jlt0, jle0, jeq0, jge0, jgt0, jinB, jnat, clt, cle, ceq, cgt, cge, lI_add, lI_sub, lI_mul, jadd, jsub, jmul, jneg, jtol, b010, b011, pv_2t, Int.toNat_natCast, Option.some.injEq, exists_eq_left', if_true, if_false]
  exact lp0 60 0 (by omega) rfl
