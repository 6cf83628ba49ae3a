/-! the Model's die and let -/
/-- how often x stands among the first c of fl -/
def fcN (fl : Nat → Int) : Nat → Int → Int
  | 0, _ => 0
  | c + 1, x => fcN fl c x + (if x = fl c then 1 else 0)
theorem fcN_b (fl : Nat → Int) : ∀ (c : Nat) (x : Int), 0 ≤ fcN fl c x ∧ fcN fl c x ≤ c
  | 0, _ => ⟨Int.le_refl 0, Int.le_refl 0⟩
  | c + 1, x => by
    have := fcN_b fl c x
    unfold fcN
    split <;> omega
theorem fcN_c {fl fl' : Nat → Int} : ∀ (c : Nat), (∀ i, i < c → fl i = fl' i) → ∀ x, fcN fl c x = fcN fl' c x
  | 0, _, _ => rfl
  | c + 1, h, x => by
    unfold fcN
    rw [fcN_c c (fun i hi => h i (by omega)) x, h c (by omega)]
/-- what reading the text changes -/
def rdC (h g : Hp) (m : Nat) : Prop := fi (fun q => q = m ∨ (m + 2 ≤ q ∧ q ≤ m + 7) ∨ (m + 9 ≤ q ∧ q ≤ m + 12)) h g ∧ (∀ i, i ≠ 4 → i ≠ 17 → i ≠ 18 → i ≠ 19 → i ≠ 20 → i ≠ 7 → zI g m i = zI h m i) ∧ (∀ s, s < 12 → (∀ k, k < 401 → zJ g (m + 2) (401 * s + k) = zJ h (m + 2) (401 * s + k)) ∧ zJ g (m + 3) s = zJ h (m + 3) s) ∧ (∀ j, j < 12 → zI g (m + 6) j = zI h (m + 6) j) ∧ (∀ j, j < 144 → zI g (m + 5) j = zI h (m + 5) j) ∧ zI g (m + 7) 0 = zI h (m + 7) 0
theorem rdC.rf {h : Hp} {m : Nat} : rdC h h m := ⟨fi.rf, fun _ _ _ _ _ _ _ => rfl, fun _ _ => ⟨fun _ _ => rfl, rfl⟩, fun _ _ => rfl, fun _ _ => rfl, rfl⟩
theorem rdC.tr {a b c : Hp} {m : Nat} (x : rdC a b m) (y : rdC b c m) : rdC a c m :=
  ⟨x.1.tr y.1, fun i h1 h2 h3 h4 h5 h6 => by rw [y.2.1 i h1 h2 h3 h4 h5 h6, x.2.1 i h1 h2 h3 h4 h5 h6], fun s hs => ⟨fun k hk => by rw [(y.2.2.1 s hs).1 k hk, (x.2.2.1 s hs).1 k hk], by rw [(y.2.2.1 s hs).2, (x.2.2.1 s hs).2]⟩, fun j hj => by rw [y.2.2.2.1 j hj, x.2.2.2.1 j hj], fun j hj => by rw [y.2.2.2.2.1 j hj, x.2.2.2.2.1 j hj], by rw [y.2.2.2.2.2, x.2.2.2.2.2]⟩
/-- and if a FAULT is told -/
def rdF (h g : Hp) (m : Nat) : Prop := fi (fun q => q = m ∨ (m + 2 ≤ q ∧ q ≤ m + 7) ∨ (m + 9 ≤ q ∧ q ≤ m + 12)) h g ∧ (∀ i, i ≠ 4 → i ≠ 17 → i ≠ 18 → i ≠ 19 → i ≠ 20 → i ≠ 7 → i ≠ 21 → i ≠ 22 → zI g m i = zI h m i) ∧ (∀ s, s < 12 → (∀ k, k < 401 → zJ g (m + 2) (401 * s + k) = zJ h (m + 2) (401 * s + k)) ∧ zJ g (m + 3) s = zJ h (m + 3) s) ∧ (∀ j, j < 12 → zI g (m + 6) j = zI h (m + 6) j) ∧ (∀ j, j < 144 → zI g (m + 5) j = zI h (m + 5) j) ∧ zI g (m + 7) 0 = zI h (m + 7) 0
theorem rdF.rf {h : Hp} {m : Nat} : rdF h h m := ⟨fi.rf, fun _ _ _ _ _ _ _ _ _ => rfl, fun _ _ => ⟨fun _ _ => rfl, rfl⟩, fun _ _ => rfl, fun _ _ => rfl, rfl⟩
theorem rdF.tr {a b c : Hp} {m : Nat} (x : rdF a b m) (y : rdF b c m) : rdF a c m :=
  ⟨x.1.tr y.1, fun i h1 h2 h3 h4 h5 h6 h7 h8 => by rw [y.2.1 i h1 h2 h3 h4 h5 h6 h7 h8, x.2.1 i h1 h2 h3 h4 h5 h6 h7 h8], fun s hs => ⟨fun k hk => by rw [(y.2.2.1 s hs).1 k hk, (x.2.2.1 s hs).1 k hk], by rw [(y.2.2.1 s hs).2, (x.2.2.1 s hs).2]⟩, fun j hj => by rw [y.2.2.2.1 j hj, x.2.2.2.1 j hj], fun j hj => by rw [y.2.2.2.2.1 j hj, x.2.2.2.2.1 j hj], by rw [y.2.2.2.2.2, x.2.2.2.2.2]⟩
/-- what reading line n changes -/
def ldC (n : Nat) (h g : Hp) (m : Nat) : Prop := fi (fun q => q = m ∨ q = m + 2 ∨ q = m + 3 ∨ q = m + 5 ∨ q = m + 6 ∨ (m + 9 ≤ q ∧ q ≤ m + 12)) h g ∧ (∀ i, i ≠ 4 → i ≠ 17 → i ≠ 18 → i ≠ 19 → i ≠ 20 → i ≠ 7 → zI g m i = zI h m i) ∧ (∀ s, s < 12 + n → (∀ k, k < 401 → zJ g (m + 2) (401 * s + k) = zJ h (m + 2) (401 * s + k)) ∧ zJ g (m + 3) s = zJ h (m + 3) s) ∧ (∀ j, j < 12 + n → zI g (m + 6) j = zI h (m + 6) j) ∧ ∀ j, j < 12 * (12 + n) → zI g (m + 5) j = zI h (m + 5) j
theorem ldC.rf {n : Nat} {h : Hp} {m : Nat} : ldC n h h m := ⟨fi.rf, fun _ _ _ _ _ _ _ => rfl, fun _ _ => ⟨fun _ _ => rfl, rfl⟩, fun _ _ => rfl, fun _ _ => rfl⟩
theorem ldC.tr {n : Nat} {a b c : Hp} {m : Nat} (x : ldC n a b m) (y : ldC n b c m) : ldC n a c m :=
  ⟨x.1.tr y.1, fun i h1 h2 h3 h4 h5 h6 => by rw [y.2.1 i h1 h2 h3 h4 h5 h6, x.2.1 i h1 h2 h3 h4 h5 h6], fun s hs => ⟨fun k hk => by rw [(y.2.2.1 s hs).1 k hk, (x.2.2.1 s hs).1 k hk], by rw [(y.2.2.1 s hs).2, (x.2.2.1 s hs).2]⟩, fun j hj => by rw [y.2.2.2.1 j hj, x.2.2.2.1 j hj], fun j hj => by rw [y.2.2.2.2 j hj, x.2.2.2.2 j hj]⟩
theorem ldC.sl {n : Nat} {h g : Hp} {m s : Nat} {W : Int → Int} {tot : Int} (x : ldC n h g m) (hs : s < 12 + n) (v : slW h m s W tot) : slW g m s W tot := ⟨fun k hk => by rw [(x.2.2.1 s hs).1 k hk]; exact v.1 k hk, by rw [(x.2.2.1 s hs).2]; exact v.2⟩
theorem nxC.ld {n : Nat} {h g : Hp} {m : Nat} (c : nxC h g m) : ldC n h g m :=
  ⟨c.1.wk fun q z => Or.inl z, fun i h1 h2 h3 h4 h5 _ => c.2 i h1 h2 h3 h4 h5, fun s _ => ⟨fun k _ => by rw [c.1.1.2.2.2.2.2.2.1 (m + 2) (by omega)], by rw [c.1.1.2.2.2.2.2.2.1 (m + 3) (by omega)]⟩, fun j _ => by rw [c.1.1.2.2.2.2.2.1 (m + 6) (by omega)], fun j _ => by rw [c.1.1.2.2.2.2.2.1 (m + 5) (by omega)]⟩
theorem sumW.ld {n : Nat} {h g : Hp} {m : Nat} (hn : n ≤ 12) (c : sumW h g m) : ldC n h g m :=
  ⟨c.1.wk fun q z => by omega, c.2.1, fun s hs => c.2.2 s (by omega), fun j _ => by rw [c.1.1.2.2.2.2.2.1 (m + 6) (by omega)], fun j _ => by rw [c.1.1.2.2.2.2.2.1 (m + 5) (by omega)]⟩
theorem slC.ld {n s : Nat} {h g : Hp} {m : Nat} (hs : 12 + n ≤ s) (c : slC h g m s) : ldC n h g m :=
  ⟨c.1.wk fun q z => by omega, fun i _ _ _ _ _ _ => by rw [c.2.2.2], fun t ht => ⟨fun k hk => c.2.1 _ (by omega), c.2.2.1 _ (by omega)⟩, fun j _ => by rw [c.2.2.2], fun j _ => by rw [c.2.2.2]⟩
theorem ldC.F {n j : Nat} {h g : Hp} {m : Nat} {v : Int32} (x : ldC n h g m) (hj : 12 + n ≤ j) : ldC n h (zsI g (m + 6) j v) m :=
  x.tr ⟨fi_I (by omega), fun i _ _ _ _ _ _ => by rw [zI_s, if_neg (by omega)], fun _ _ => ⟨fun _ _ => rfl, rfl⟩, fun i hi => by rw [zI_s, if_neg (by omega)], fun i hi => by rw [zI_s, if_neg (by omega)]⟩
theorem ldC.A {n j : Nat} {h g : Hp} {m : Nat} {v : Int32} (x : ldC n h g m) (hj : 12 * (12 + n) ≤ j) : ldC n h (zsI g (m + 5) j v) m :=
  x.tr ⟨fi_I (by omega), fun i _ _ _ _ _ _ => by rw [zI_s, if_neg (by omega)], fun _ _ => ⟨fun _ _ => rfl, rfl⟩, fun i hi => by rw [zI_s, if_neg (by omega)], fun i hi => by rw [zI_s, if_neg (by omega)]⟩
theorem ldC.rd {n : Nat} {h g : Hp} {m : Nat} (c : ldC n h g m) : rdC h g m :=
  ⟨c.1.wk fun q z => by omega, c.2.1, fun s hs => c.2.2.1 s (by omega), fun j hj => c.2.2.2.1 j (by omega), fun j hj => c.2.2.2.2 j (by omega), by rw [c.1.1.2.2.2.2.2.1 (m + 7) (by omega)]⟩
theorem rdC.bf {h g : Hp} {m : Nat} (c : rdC h g m) : rdF h g m := ⟨c.1, fun i h1 h2 h3 h4 h5 h6 _ _ => c.2.1 i h1 h2 h3 h4 h5 h6, c.2.2⟩
theorem ldC.bf {n : Nat} {h g : Hp} {m : Nat} (c : ldC n h g m) : rdF h g m := c.rd.bf
theorem flC.bf {h g : Hp} {m : Nat} (c : flC h g m) : rdF h g m :=
  ⟨c.1.wk fun q z => by omega, c.2.1, fun s hs => c.2.2 s (by omega), fun j _ => by rw [c.1.1.2.2.2.2.2.1 (m + 6) (by omega)], fun j _ => by rw [c.1.1.2.2.2.2.2.1 (m + 5) (by omega)], by rw [c.1.1.2.2.2.2.2.1 (m + 7) (by omega)]⟩
theorem nxE.m {h : Hp} {m sz : Nat} {B : Nat → Int} {s : R4} (x : nxE h m sz B s) : mO h m := by
  obtain ⟨p, tk, at', nu, wo, xg, -⟩ := x
  exact xg.1
/-- the reader and the NAMES, when a line has been read on -/
theorem suG.ld {h g : Hp} {m sz n : Nat} {B Wd : Nat → Int} {Vn : Nat → RowVal} {s s' : R4} {tm tm' : Bool} (x : suG h m sz n B Wd Vn s tm) (c : ldC n h g m) (e : nxE g m sz B s') (k : tkP s') (h7 : zI g m 7 = iI (if tm' = true then 1 else 0)) : suG g m sz n B Wd Vn s' tm' := by
  obtain ⟨n1, n2, n3⟩ := x.2.2.1
  refine ⟨e, k, ⟨by rw [c.1.1.2.2.2.2.2.1 (m + 7) (by omega)]; exact n1, n2, fun k hk => ⟨(n3 k hk).1, ?_, c.sl (by omega) (n3 k hk).2.2.1, (n3 k hk).2.2.2⟩⟩, h7⟩
  rw [c.1.1.2.2.2.2.2.2.1 (m + 4) (by omega)]
  exact (n3 k hk).2.1
theorem suG.lk {h g : Hp} {m sz n : Nat} {B Wd : Nat → Int} {Vn : Nat → RowVal} {s : R4} {tm : Bool} (x : suG h m sz n B Wd Vn s tm) (c : ldC n h g m) (hI : zI g m = zI h m) (hJ : zJ g m = zJ h m) : suG g m sz n B Wd Vn s tm :=
  x.ld c (x.1.of (x.m.fi c.1) (fun i _ => by rw [hI]) (c.1.1.2.2.2.2.2.1 _ (by omega)) (by rw [hJ])) x.2.1 (by rw [hI]; exact x.2.2.2)
/-- c FACES of die n read -/
def dieS (h : Hp) (m n c : Nat) (fl : Nat → Int) : Prop := zI h (m + 6) (12 + n) = iI c ∧ c ≤ 12 ∧ (∀ i, i < c → zI h (m + 5) (12 * (12 + n) + i) = iI (fl i) ∧ 0 ≤ fl i ∧ fl i ≤ 60) ∧ slW h m (12 + n) (fcN fl c) c
theorem dieS.of {h g : Hp} {m n c : Nat} {fl : Nat → Int} (x : dieS h m n c fl) (h6 : zI g (m + 6) = zI h (m + 6)) (h5 : zI g (m + 5) = zI h (m + 5)) (h2 : zJ g (m + 2) = zJ h (m + 2)) (h3 : zJ g (m + 3) = zJ h (m + 3)) : dieS g m n c fl :=
  ⟨by rw [h6]; exact x.1, x.2.1, fun i hi => by rw [h5]; exact x.2.2.1 i hi, x.2.2.2.of h2 h3⟩
theorem t_M_die {d : Nat} {h : Hp} {m sz n : Nat} {B Wd : Nat → Int} {Vn : Nat → RowVal} {s : R4} {tm : Bool} {v0 : RowVal} {R : FRes} {Q : Nat → Option Value → Hp → Prop} (x : suG h m sz n B Wd Vn s tm) (hn : n < 12) (hR : fcS B sz 13 0 v0 s = R)
    (gd : R.1 = true → R.2.2.2.2.1 ≠ 0 → ∀ g fl, ldC n h g m → suG g m sz n B Wd Vn R.2.2.2.1 tm → dieS g m n R.2.2.2.2.1 fl → (∀ x, R.2.2.2.2.2.2.2.2 x = fcN fl R.2.2.2.2.1 x) → R.2.2.2.2.2.2.2.1 = R.2.2.2.2.1 → gV R.2.2.2.2.2 → Q 0 (some (.int (iI 1))) g)
    (bd : ∀ k p, (R.1 = false ∧ k = R.2.1 ∧ p = R.2.2.1 ∨ R.1 = true ∧ R.2.2.2.2.1 = 0 ∧ k = 1 ∧ p = R.2.2.2.1.2.2.2) → ∀ g, rdF h g m → zI g m 21 = iI k → e22 g m p → Q 0 (some (.int (iI 0))) g) : PR (d + 2) m_M_die [.ref m, .int (iI ((12 + n : Nat) : Int))] h Q := by
  have M := x.m.k
  show PW (d + 2) 207 0 [some (.ref m), some (.int (iI ((12 + n : Nat) : Int)))] [] h Q
  refine vs_ok 2 ?_
  rw [show ((gRes 207).drop 0).take 2 = [.aload 0, .iload 1] from rfl]
  simp (disch := omega) only [vs_aload0, vs_iload1, vs_nil, gv_0, gv_1, gv_2, gv_3, pv_0, pv_1, va_rf_s, Nat.reduceDiv, Nat.reduceMod, Nat.reduceAdd, Nat.reduceMul, Int.reduceToNat, true_and, and_true, and_self, cP_eq, cP_ne, cP_lt, cP_ge, cP_gt, cP_le, eL_i, eL_l, eL_r, eL_n, Option.toList_none, Option.toList_some, List.nil_append, List.cons_append, kkI, llI, nnI, rrI, jjI, kkJ, llJ, nnJ, rrJ, iiJ, zIIs, zJJs, nEF, nET, and_false, false_and, jmin, jmax, catS_n, catS_i, catS_r, catS_l, Nat.reduceLeDiff, j1eq1, n21, jt0, jt1, Bool.false_eq_true, Classical.not_not, true_or, or_true, false_or, or_false, true_imp_iff, false_imp_iff, not_true_eq_false, not_false_eq_true, jif0, jif1, jifb, ltT, ltF, leT, leF, eqT, eqF, jlt, jle, jeq, jlt0, jle0, jeq0, jge0, jgt0, jinB, jnat, clt, cle, ceq, cgt, cge, lI_add, lI_sub, lI_mul, jadd, jsub, jmul, jneg, jtol, b010, b011, pv_2t, Int.toNat_natCast, Option.some.injEq, exists_eq_left', if_true, if_false]
  refine PW.iv rfl rfl rfl M.1 M.2 (le_b rfl) (le_b rfl) ?_
  refine t_M_clear x.m (show 12 + n < 49 by omega) fun g0 c0 v0' => ⟨rfl, ⟨c0.1.1.2.2.1, rfl⟩, ?_⟩
  have l0 : ldC n h g0 m := slC.ld (Nat.le_refl _) c0
  have x0 := x.lk l0 (by rw [c0.2.2.2]) (c0.1.1.2.2.2.2.2.2.1 m (by omega))
  have M0 := x0.m.k
  have A6 := x0.m.faceMany
  refine vs_ok 5 ?_
  rw [show ((gRes 207).drop 3).take 5 = [.aload 0, .getfield 12102, .iload 1, .iconst 0, .iastore] from rfl]
  simp (disch := omega) only [vs_iconst, vs_getfield, vs_iastore, vs_aload0, vs_iload1, vs_nil, gv_0, gv_1, gv_2, gv_3, pv_0, pv_1, va_rf_s, Nat.reduceDiv, Nat.reduceMod, Nat.reduceAdd, Nat.reduceMul, Int.reduceToNat, true_and, and_true, and_self, cP_eq, cP_ne, cP_lt, cP_ge, cP_gt, cP_le, eL_i, eL_l, eL_r, eL_n, Option.toList_none, Option.toList_some, List.nil_append, List.cons_append, kkI, llI, nnI, rrI, jjI, kkJ, llJ, nnJ, rrJ, iiJ, zIIs, zJJs, nEF, nET, and_false, false_and, jmin, jmax, catS_n, catS_i, catS_r, catS_l, Nat.reduceLeDiff, j1eq1, n21, jt0, jt1, Bool.false_eq_true, Classical.not_not, true_or, or_true, false_or, or_false, true_imp_iff, false_imp_iff, not_true_eq_false, not_false_eq_true, jif0, jif1, jifb, ltT, ltF, leT, leF, eqT, eqF, jlt, jle, jeq, jlt0, jle0, jeq0, jge0, jgt0, jinB, jnat, clt, cle, ceq, cgt, cge, lI_add, lI_sub, lI_mul, jadd, jsub, jmul, jneg, jtol, b010, b011, pv_2t, Int.toNat_natCast, Option.some.injEq, exists_eq_left', if_true, if_false, M0, A6]
  have l1 : ldC n h (zsI g0 (m + 6) (12 + n) (iI 0)) m := l0.F (Nat.le_refl _)
  have x1 := x.lk l1 (by funext i; rw [zI_s, if_neg (by omega), c0.2.2.2]) (c0.1.1.2.2.2.2.2.2.1 m (by omega))
  have d1 : ∀ fl, dieS (zsI g0 (m + 6) (12 + n) (iI 0)) m n 0 fl := fun fl => ⟨by rw [zI_s, if_pos ⟨rfl, rfl⟩]; rfl, by omega, fun i hi => absurd hi (by omega), v0'.of rfl rfl⟩
  generalize zsI g0 (m + 6) (12 + n) (iI 0) = g1 at *
  have e5 : ∀ c : Nat, (12 : Int) * ((12 + n : Nat) : Int) + (c : Int) = ((12 * (12 + n) + c : Nat) : Int) := fun c => by omega
  have e2 : ∀ a : Nat, (401 : Int) * ((12 + n : Nat) : Int) + 200 + (a : Int) = ((401 * (12 + n) + (200 + a) : Nat) : Int) := fun a => by omega
  have lp : ∀ (k c : Nat) (v : RowVal) (s : R4) (fl : Nat → Int) (g : Hp), k + c = 13 → fcS B sz k c v s = R → ldC n h g m → suG g m sz n B Wd Vn s tm → dieS g m n c fl → (c ≠ 0 → (∀ x, v.2.2.2 x = fcN fl c x) ∧ v.2.2.1 = c ∧ gV v) → (c = 0 → s.2.1 = 3) → PW (d + 2) 207 16 [some (.ref m), some (.int (iI ((12 + n : Nat) : Int)))] [] g Q := by
    intro k
    induction k with
    | zero =>
      intro c v s fl g hk _ _ _ ds
      have := ds.2.1
      omega
    | succ k ih =>
      intro c v s fl g hk hF lg xg ds hv h0
      obtain ⟨d6, d12, d5, dW⟩ := ds
      have M := xg.m.k
      have A6 := xg.m.faceMany
      have A5 := xg.m.faces
      have A2 := xg.m.pool
      have A3 := xg.m.alls
      obtain ⟨tk, h17, htk, et, -⟩ := xg.tk
      have ks := xg.2.1
      unfold fcS at hF
      by_cases q3 : s.2.1 = 3
      · rw [if_neg (fun z => z q3)] at hF
        have h20 : zI g m 20 = iI s.2.2.1 := by
          obtain ⟨⟨p, tk, at', nu, wo, xg', y17, ht, y18, y20, y23, hb, T⟩, -⟩ := xg
          rw [y20]
          have := T.2.2
          rw [show nu = s.2.2.1 by omega]
        obtain ⟨a, ea⟩ : ∃ a : Nat, s.2.2.1 = a := ⟨s.2.2.1.toNat, by have := ks.2.2.1; omega⟩
        have ha : a ≤ 99 := by have := ks.2.2.2.2 q3; omega
        rw [ea] at h20 hF
        by_cases c60 : 60 < (a : Int)
        · rw [if_pos c60] at hF
          refine vs_ok 4 ?_
          rw [show ((gRes 207).drop 16).take 4 = [.aload 0, .getfield 12170, .iconst 2, .if_icmp .ne 85] from rfl]
          simp (disch := omega) only [vs_iconst, vs_if_icmp, vs_getfield, vs_aload0, vs_nil, gv_0, gv_1, gv_2, gv_3, pv_0, pv_1, va_rf_s, Nat.reduceDiv, Nat.reduceMod, Nat.reduceAdd, Nat.reduceMul, Int.reduceToNat, true_and, and_true, and_self, cP_eq, cP_ne, cP_lt, cP_ge, cP_gt, cP_le, eL_i, eL_l, eL_r, eL_n, Option.toList_none, Option.toList_some, List.nil_append, List.cons_append, kkI, llI, nnI, rrI, jjI, kkJ, llJ, nnJ, rrJ, iiJ, zIIs, zJJs, nEF, nET, and_false, false_and, jmin, jmax, catS_n, catS_i, catS_r, catS_l, Nat.reduceLeDiff, j1eq1, n21, jt0, jt1, Bool.false_eq_true, Classical.not_not, true_or, or_true, false_or, or_false, true_imp_iff, false_imp_iff, not_true_eq_false, not_false_eq_true, jif0, jif1, jifb, ltT, ltF, leT, leF, eqT, eqF, jlt, jle, jeq, jlt0, jle0, jeq0, jge0, jgt0, jinB, jnat, clt, cle, ceq, cgt, cge, lI_add, lI_sub, lI_mul, jadd, jsub, jmul, jneg, jtol, b010, b011, pv_2t, Int.toNat_natCast, Option.some.injEq, exists_eq_left', if_true, if_false, M, h17]
          refine vs_ok 4 ?_
          rw [show ((gRes 207).drop 20).take 4 = [.aload 0, .getfield 12200, .iconst 60, .if_icmp .le 28] from rfl]
          simp (disch := omega) only [vs_iconst, vs_if_icmp, vs_getfield, vs_aload0, vs_nil, gv_0, gv_1, gv_2, gv_3, pv_0, pv_1, va_rf_s, Nat.reduceDiv, Nat.reduceMod, Nat.reduceAdd, Nat.reduceMul, Int.reduceToNat, true_and, and_true, and_self, cP_eq, cP_ne, cP_lt, cP_ge, cP_gt, cP_le, eL_i, eL_l, eL_r, eL_n, Option.toList_none, Option.toList_some, List.nil_append, List.cons_append, kkI, llI, nnI, rrI, jjI, kkJ, llJ, nnJ, rrJ, iiJ, zIIs, zJJs, nEF, nET, and_false, false_and, jmin, jmax, catS_n, catS_i, catS_r, catS_l, Nat.reduceLeDiff, j1eq1, n21, jt0, jt1, Bool.false_eq_true, Classical.not_not, true_or, or_true, false_or, or_false, true_imp_iff, false_imp_iff, not_true_eq_false, not_false_eq_true, jif0, jif1, jifb, ltT, ltF, leT, leF, eqT, eqF, jlt, jle, jeq, jlt0, jle0, jeq0, jge0, jgt0, jinB, jnat, clt, cle, ceq, cgt, cge, lI_add, lI_sub, lI_mul, jadd, jsub, jmul, jneg, jtol, b010, b011, pv_2t, Int.toNat_natCast, Option.some.injEq, exists_eq_left', if_true, if_false, M, h20]
          refine vs_ok 2 ?_
          rw [show ((gRes 207).drop 24).take 2 = [.aload 0, .iconst 2] from rfl]
          simp (disch := omega) only [vs_iconst, vs_aload0, vs_nil, gv_0, gv_1, gv_2, gv_3, pv_0, pv_1, va_rf_s, Nat.reduceDiv, Nat.reduceMod, Nat.reduceAdd, Nat.reduceMul, Int.reduceToNat, true_and, and_true, and_self, cP_eq, cP_ne, cP_lt, cP_ge, cP_gt, cP_le, eL_i, eL_l, eL_r, eL_n, Option.toList_none, Option.toList_some, List.nil_append, List.cons_append, kkI, llI, nnI, rrI, jjI, kkJ, llJ, nnJ, rrJ, iiJ, zIIs, zJJs, nEF, nET, and_false, false_and, jmin, jmax, catS_n, catS_i, catS_r, catS_l, Nat.reduceLeDiff, j1eq1, n21, jt0, jt1, Bool.false_eq_true, Classical.not_not, true_or, or_true, false_or, or_false, true_imp_iff, false_imp_iff, not_true_eq_false, not_false_eq_true, jif0, jif1, jifb, ltT, ltF, leT, leF, eqT, eqF, jlt, jle, jeq, jlt0, jle0, jeq0, jge0, jgt0, jinB, jnat, clt, cle, ceq, cgt, cge, lI_add, lI_sub, lI_mul, jadd, jsub, jmul, jneg, jtol, b010, b011, pv_2t, Int.toNat_natCast, Option.some.injEq, exists_eq_left', if_true, if_false]
          refine PW.iv rfl rfl rfl M.1 M.2 (le_b rfl) (le_b rfl) ?_
          refine t_bad xg fun g2 f2 => ⟨rfl, ⟨f2.1.n, rfl⟩, ?_⟩
          refine vs_ok 1 ?_
          rw [show ((gRes 207).drop 27).take 1 = [.ireturn] from rfl]
          simp (disch := omega) only [vs_ireturn, vs_nil, gv_0, gv_1, gv_2, gv_3, pv_0, pv_1, va_rf_s, Nat.reduceDiv, Nat.reduceMod, Nat.reduceAdd, Nat.reduceMul, Int.reduceToNat, true_and, and_true, and_self, cP_eq, cP_ne, cP_lt, cP_ge, cP_gt, cP_le, eL_i, eL_l, eL_r, eL_n, Option.toList_none, Option.toList_some, List.nil_append, List.cons_append, kkI, llI, nnI, rrI, jjI, kkJ, llJ, nnJ, rrJ, iiJ, zIIs, zJJs, nEF, nET, and_false, false_and, jmin, jmax, catS_n, catS_i, catS_r, catS_l, Nat.reduceLeDiff, j1eq1, n21, jt0, jt1, Bool.false_eq_true, Classical.not_not, true_or, or_true, false_or, or_false, true_imp_iff, false_imp_iff, not_true_eq_false, not_false_eq_true, jif0, jif1, jifb, ltT, ltF, leT, leF, eqT, eqF, jlt, jle, jeq, jlt0, jle0, jeq0, jge0, jgt0, jinB, jnat, clt, cle, ceq, cgt, cge, lI_add, lI_sub, lI_mul, jadd, jsub, jmul, jneg, jtol, b010, b011, pv_2t, Int.toNat_natCast, Option.some.injEq, exists_eq_left', if_true, if_false, show gRc 207 = 2 from rfl]
          exact bd 2 s.2.2.2 (Or.inl (by rw [← hF]; exact ⟨rfl, rfl, rfl⟩)) g2 (lg.bf.tr f2.1.bf) f2.2.1 f2.2.2
        · rw [if_neg c60] at hF
          by_cases c12 : 12 ≤ c
          · rw [if_pos c12] at hF
            refine vs_ok 4 ?_
            rw [show ((gRes 207).drop 16).take 4 = [.aload 0, .getfield 12170, .iconst 2, .if_icmp .ne 85] from rfl]
            simp (disch := omega) only [vs_iconst, vs_if_icmp, vs_getfield, vs_aload0, vs_nil, gv_0, gv_1, gv_2, gv_3, pv_0, pv_1, va_rf_s, Nat.reduceDiv, Nat.reduceMod, Nat.reduceAdd, Nat.reduceMul, Int.reduceToNat, true_and, and_true, and_self, cP_eq, cP_ne, cP_lt, cP_ge, cP_gt, cP_le, eL_i, eL_l, eL_r, eL_n, Option.toList_none, Option.toList_some, List.nil_append, List.cons_append, kkI, llI, nnI, rrI, jjI, kkJ, llJ, nnJ, rrJ, iiJ, zIIs, zJJs, nEF, nET, and_false, false_and, jmin, jmax, catS_n, catS_i, catS_r, catS_l, Nat.reduceLeDiff, j1eq1, n21, jt0, jt1, Bool.false_eq_true, Classical.not_not, true_or, or_true, false_or, or_false, true_imp_iff, false_imp_iff, not_true_eq_false, not_false_eq_true, jif0, jif1, jifb, ltT, ltF, leT, leF, eqT, eqF, jlt, jle, jeq, jlt0, jle0, jeq0, jge0, jgt0, jinB, jnat, clt, cle, ceq, cgt, cge, lI_add, lI_sub, lI_mul, jadd, jsub, jmul, jneg, jtol, b010, b011, pv_2t, Int.toNat_natCast, Option.some.injEq, exists_eq_left', if_true, if_false, M, h17]
            refine vs_ok 4 ?_
            rw [show ((gRes 207).drop 20).take 4 = [.aload 0, .getfield 12200, .iconst 60, .if_icmp .le 28] from rfl]
            simp (disch := omega) only [vs_iconst, vs_if_icmp, vs_getfield, vs_aload0, vs_nil, gv_0, gv_1, gv_2, gv_3, pv_0, pv_1, va_rf_s, Nat.reduceDiv, Nat.reduceMod, Nat.reduceAdd, Nat.reduceMul, Int.reduceToNat, true_and, and_true, and_self, cP_eq, cP_ne, cP_lt, cP_ge, cP_gt, cP_le, eL_i, eL_l, eL_r, eL_n, Option.toList_none, Option.toList_some, List.nil_append, List.cons_append, kkI, llI, nnI, rrI, jjI, kkJ, llJ, nnJ, rrJ, iiJ, zIIs, zJJs, nEF, nET, and_false, false_and, jmin, jmax, catS_n, catS_i, catS_r, catS_l, Nat.reduceLeDiff, j1eq1, n21, jt0, jt1, Bool.false_eq_true, Classical.not_not, true_or, or_true, false_or, or_false, true_imp_iff, false_imp_iff, not_true_eq_false, not_false_eq_true, jif0, jif1, jifb, ltT, ltF, leT, leF, eqT, eqF, jlt, jle, jeq, jlt0, jle0, jeq0, jge0, jgt0, jinB, jnat, clt, cle, ceq, cgt, cge, lI_add, lI_sub, lI_mul, jadd, jsub, jmul, jneg, jtol, b010, b011, pv_2t, Int.toNat_natCast, Option.some.injEq, exists_eq_left', if_true, if_false, M, h20]
            refine vs_ok 6 ?_
            rw [show ((gRes 207).drop 28).take 6 = [.aload 0, .getfield 12102, .iload 1, .iaload, .iconst 12, .if_icmp .ne 38] from rfl]
            simp (disch := omega) only [vs_iconst, vs_if_icmp, vs_getfield, vs_iaload, vs_aload0, vs_iload1, vs_nil, gv_0, gv_1, gv_2, gv_3, pv_0, pv_1, va_rf_s, Nat.reduceDiv, Nat.reduceMod, Nat.reduceAdd, Nat.reduceMul, Int.reduceToNat, true_and, and_true, and_self, cP_eq, cP_ne, cP_lt, cP_ge, cP_gt, cP_le, eL_i, eL_l, eL_r, eL_n, Option.toList_none, Option.toList_some, List.nil_append, List.cons_append, kkI, llI, nnI, rrI, jjI, kkJ, llJ, nnJ, rrJ, iiJ, zIIs, zJJs, nEF, nET, and_false, false_and, jmin, jmax, catS_n, catS_i, catS_r, catS_l, Nat.reduceLeDiff, j1eq1, n21, jt0, jt1, Bool.false_eq_true, Classical.not_not, true_or, or_true, false_or, or_false, true_imp_iff, false_imp_iff, not_true_eq_false, not_false_eq_true, jif0, jif1, jifb, ltT, ltF, leT, leF, eqT, eqF, jlt, jle, jeq, jlt0, jle0, jeq0, jge0, jgt0, jinB, jnat, clt, cle, ceq, cgt, cge, lI_add, lI_sub, lI_mul, jadd, jsub, jmul, jneg, jtol, b010, b011, pv_2t, Int.toNat_natCast, Option.some.injEq, exists_eq_left', if_true, if_false, M, A6, d6]
            refine vs_ok 2 ?_
            rw [show ((gRes 207).drop 34).take 2 = [.aload 0, .iconst 4] from rfl]
            simp (disch := omega) only [vs_iconst, vs_aload0, vs_nil, gv_0, gv_1, gv_2, gv_3, pv_0, pv_1, va_rf_s, Nat.reduceDiv, Nat.reduceMod, Nat.reduceAdd, Nat.reduceMul, Int.reduceToNat, true_and, and_true, and_self, cP_eq, cP_ne, cP_lt, cP_ge, cP_gt, cP_le, eL_i, eL_l, eL_r, eL_n, Option.toList_none, Option.toList_some, List.nil_append, List.cons_append, kkI, llI, nnI, rrI, jjI, kkJ, llJ, nnJ, rrJ, iiJ, zIIs, zJJs, nEF, nET, and_false, false_and, jmin, jmax, catS_n, catS_i, catS_r, catS_l, Nat.reduceLeDiff, j1eq1, n21, jt0, jt1, Bool.false_eq_true, Classical.not_not, true_or, or_true, false_or, or_false, true_imp_iff, false_imp_iff, not_true_eq_false, not_false_eq_true, jif0, jif1, jifb, ltT, ltF, leT, leF, eqT, eqF, jlt, jle, jeq, jlt0, jle0, jeq0, jge0, jgt0, jinB, jnat, clt, cle, ceq, cgt, cge, lI_add, lI_sub, lI_mul, jadd, jsub, jmul, jneg, jtol, b010, b011, pv_2t, Int.toNat_natCast, Option.some.injEq, exists_eq_left', if_true, if_false]
            refine PW.iv rfl rfl rfl M.1 M.2 (le_b rfl) (le_b rfl) ?_
            refine t_bad xg fun g2 f2 => ⟨rfl, ⟨f2.1.n, rfl⟩, ?_⟩
            refine vs_ok 1 ?_
            rw [show ((gRes 207).drop 37).take 1 = [.ireturn] from rfl]
            simp (disch := omega) only [vs_ireturn, vs_nil, gv_0, gv_1, gv_2, gv_3, pv_0, pv_1, va_rf_s, Nat.reduceDiv, Nat.reduceMod, Nat.reduceAdd, Nat.reduceMul, Int.reduceToNat, true_and, and_true, and_self, cP_eq, cP_ne, cP_lt, cP_ge, cP_gt, cP_le, eL_i, eL_l, eL_r, eL_n, Option.toList_none, Option.toList_some, List.nil_append, List.cons_append, kkI, llI, nnI, rrI, jjI, kkJ, llJ, nnJ, rrJ, iiJ, zIIs, zJJs, nEF, nET, and_false, false_and, jmin, jmax, catS_n, catS_i, catS_r, catS_l, Nat.reduceLeDiff, j1eq1, n21, jt0, jt1, Bool.false_eq_true, Classical.not_not, true_or, or_true, false_or, or_false, true_imp_iff, false_imp_iff, not_true_eq_false, not_false_eq_true, jif0, jif1, jifb, ltT, ltF, leT, leF, eqT, eqF, jlt, jle, jeq, jlt0, jle0, jeq0, jge0, jgt0, jinB, jnat, clt, cle, ceq, cgt, cge, lI_add, lI_sub, lI_mul, jadd, jsub, jmul, jneg, jtol, b010, b011, pv_2t, Int.toNat_natCast, Option.some.injEq, exists_eq_left', if_true, if_false, show gRc 207 = 2 from rfl]
            exact bd 4 s.2.2.2 (Or.inl (by rw [← hF]; exact ⟨rfl, rfl, rfl⟩)) g2 (lg.bf.tr f2.1.bf) f2.2.1 f2.2.2
          · rw [if_neg c12] at hF
            have w1 := dW.1 (200 + a) (by omega)
            have w2 := dW.2
            refine vs_ok 4 ?_
            rw [show ((gRes 207).drop 16).take 4 = [.aload 0, .getfield 12170, .iconst 2, .if_icmp .ne 85] from rfl]
            simp (disch := omega) only [vs_iconst, vs_if_icmp, vs_getfield, vs_aload0, vs_nil, gv_0, gv_1, gv_2, gv_3, pv_0, pv_1, va_rf_s, Nat.reduceDiv, Nat.reduceMod, Nat.reduceAdd, Nat.reduceMul, Int.reduceToNat, true_and, and_true, and_self, cP_eq, cP_ne, cP_lt, cP_ge, cP_gt, cP_le, eL_i, eL_l, eL_r, eL_n, Option.toList_none, Option.toList_some, List.nil_append, List.cons_append, kkI, llI, nnI, rrI, jjI, kkJ, llJ, nnJ, rrJ, iiJ, zIIs, zJJs, nEF, nET, and_false, false_and, jmin, jmax, catS_n, catS_i, catS_r, catS_l, Nat.reduceLeDiff, j1eq1, n21, jt0, jt1, Bool.false_eq_true, Classical.not_not, true_or, or_true, false_or, or_false, true_imp_iff, false_imp_iff, not_true_eq_false, not_false_eq_true, jif0, jif1, jifb, ltT, ltF, leT, leF, eqT, eqF, jlt, jle, jeq, jlt0, jle0, jeq0, jge0, jgt0, jinB, jnat, clt, cle, ceq, cgt, cge, lI_add, lI_sub, lI_mul, jadd, jsub, jmul, jneg, jtol, b010, b011, pv_2t, Int.toNat_natCast, Option.some.injEq, exists_eq_left', if_true, if_false, M, h17]
            refine vs_ok 4 ?_
            rw [show ((gRes 207).drop 20).take 4 = [.aload 0, .getfield 12200, .iconst 60, .if_icmp .le 28] from rfl]
            simp (disch := omega) only [vs_iconst, vs_if_icmp, vs_getfield, vs_aload0, vs_nil, gv_0, gv_1, gv_2, gv_3, pv_0, pv_1, va_rf_s, Nat.reduceDiv, Nat.reduceMod, Nat.reduceAdd, Nat.reduceMul, Int.reduceToNat, true_and, and_true, and_self, cP_eq, cP_ne, cP_lt, cP_ge, cP_gt, cP_le, eL_i, eL_l, eL_r, eL_n, Option.toList_none, Option.toList_some, List.nil_append, List.cons_append, kkI, llI, nnI, rrI, jjI, kkJ, llJ, nnJ, rrJ, iiJ, zIIs, zJJs, nEF, nET, and_false, false_and, jmin, jmax, catS_n, catS_i, catS_r, catS_l, Nat.reduceLeDiff, j1eq1, n21, jt0, jt1, Bool.false_eq_true, Classical.not_not, true_or, or_true, false_or, or_false, true_imp_iff, false_imp_iff, not_true_eq_false, not_false_eq_true, jif0, jif1, jifb, ltT, ltF, leT, leF, eqT, eqF, jlt, jle, jeq, jlt0, jle0, jeq0, jge0, jgt0, jinB, jnat, clt, cle, ceq, cgt, cge, lI_add, lI_sub, lI_mul, jadd, jsub, jmul, jneg, jtol, b010, b011, pv_2t, Int.toNat_natCast, Option.some.injEq, exists_eq_left', if_true, if_false, M, h20]
            refine vs_ok 6 ?_
            rw [show ((gRes 207).drop 28).take 6 = [.aload 0, .getfield 12102, .iload 1, .iaload, .iconst 12, .if_icmp .ne 38] from rfl]
            simp (disch := omega) only [vs_iconst, vs_if_icmp, vs_getfield, vs_iaload, vs_aload0, vs_iload1, vs_nil, gv_0, gv_1, gv_2, gv_3, pv_0, pv_1, va_rf_s, Nat.reduceDiv, Nat.reduceMod, Nat.reduceAdd, Nat.reduceMul, Int.reduceToNat, true_and, and_true, and_self, cP_eq, cP_ne, cP_lt, cP_ge, cP_gt, cP_le, eL_i, eL_l, eL_r, eL_n, Option.toList_none, Option.toList_some, List.nil_append, List.cons_append, kkI, llI, nnI, rrI, jjI, kkJ, llJ, nnJ, rrJ, iiJ, zIIs, zJJs, nEF, nET, and_false, false_and, jmin, jmax, catS_n, catS_i, catS_r, catS_l, Nat.reduceLeDiff, j1eq1, n21, jt0, jt1, Bool.false_eq_true, Classical.not_not, true_or, or_true, false_or, or_false, true_imp_iff, false_imp_iff, not_true_eq_false, not_false_eq_true, jif0, jif1, jifb, ltT, ltF, leT, leF, eqT, eqF, jlt, jle, jeq, jlt0, jle0, jeq0, jge0, jgt0, jinB, jnat, clt, cle, ceq, cgt, cge, lI_add, lI_sub, lI_mul, jadd, jsub, jmul, jneg, jtol, b010, b011, pv_2t, Int.toNat_natCast, Option.some.injEq, exists_eq_left', if_true, if_false, M, A6, d6]
            refine vs_ok 13 ?_
            rw [show ((gRes 207).drop 38).take 13 = [.aload 0, .getfield 12092, .iconst 12, .iload 1, .imul, .aload 0, .getfield 12102, .iload 1, .iaload, .iadd, .aload 0, .getfield 12200, .iastore] from rfl]
            simp (disch := omega) only [vs_iadd, vs_imul, vs_iconst, vs_getfield, vs_iaload, vs_iastore, vs_aload0, vs_iload1, vs_nil, gv_0, gv_1, gv_2, gv_3, pv_0, pv_1, va_rf_s, Nat.reduceDiv, Nat.reduceMod, Nat.reduceAdd, Nat.reduceMul, Int.reduceToNat, true_and, and_true, and_self, cP_eq, cP_ne, cP_lt, cP_ge, cP_gt, cP_le, eL_i, eL_l, eL_r, eL_n, Option.toList_none, Option.toList_some, List.nil_append, List.cons_append, kkI, llI, nnI, rrI, jjI, kkJ, llJ, nnJ, rrJ, iiJ, zIIs, zJJs, nEF, nET, and_false, false_and, jmin, jmax, catS_n, catS_i, catS_r, catS_l, Nat.reduceLeDiff, j1eq1, n21, jt0, jt1, Bool.false_eq_true, Classical.not_not, true_or, or_true, false_or, or_false, true_imp_iff, false_imp_iff, not_true_eq_false, not_false_eq_true, jif0, jif1, jifb, ltT, ltF, leT, leF, eqT, eqF, jlt, jle, jeq, jlt0, jle0, jeq0, jge0, jgt0, jinB, jnat, clt, cle, ceq, cgt, cge, lI_add, lI_sub, lI_mul, jadd, jsub, jmul, jneg, jtol, b010, b011, pv_2t, Int.toNat_natCast, Option.some.injEq, exists_eq_left', if_true, if_false, M, A5, A6, d6, h20, e5]
            have p51 : ∀ ga, ga = zsI g (m + 5) (12 * (12 + n) + c) (iI a) → PW (d + 2) 207 51 [some (.ref m), some (.int (iI ((12 + n : Nat) : Int)))] [] ga Q := by
              intro ga ega
              have la : ldC n h ga m := by rw [ega]; exact lg.A (by omega)
              have xa := xg.lk (g := ga) (by rw [ega]; exact (ldC.rf).A (by omega)) (by rw [ega]; funext i; rw [zI_s, if_neg (by omega)]) (by rw [ega]; rfl)
              have da : ∀ i, i < c + 1 → zI ga (m + 5) (12 * (12 + n) + i) = iI (if i = c then (a : Int) else fl i) := fun i hi => by
                rw [ega, zI_s]
                by_cases z : i = c
                · rw [if_pos ⟨rfl, by omega⟩, if_pos z]
                · rw [if_neg (by omega), if_neg z]
                  exact (d5 i (by omega)).1
              have a6 : zI ga (m + 6) (12 + n) = iI c := by rw [ega, zI_s, if_neg (by omega)]; exact d6
              have a20 : zI ga m 20 = iI a := by rw [ega, zI_s, if_neg (by omega)]; exact h20
              have aW : slW ga m (12 + n) (fcN fl c) c := by rw [ega]; exact dW.of rfl rfl
              clear ega
              have w1 := aW.1 (200 + a) (by omega)
              have w2 := aW.2
              have Ma := xa.m.k
              have B6 := xa.m.faceMany
              have B2 := xa.m.pool
              have B3 := xa.m.alls
              refine vs_ok 8 ?_
              rw [show ((gRes 207).drop 51).take 8 = [.aload 0, .getfield 12102, .iload 1, .dup2, .iaload, .iconst 1, .iadd, .iastore] from rfl]
              simp (disch := omega) only [vs_iadd, vs_iconst, vs_getfield, vs_iaload, vs_iastore, vs_dup2, vs_aload0, vs_iload1, vs_nil, gv_0, gv_1, gv_2, gv_3, pv_0, pv_1, va_rf_s, Nat.reduceDiv, Nat.reduceMod, Nat.reduceAdd, Nat.reduceMul, Int.reduceToNat, true_and, and_true, and_self, cP_eq, cP_ne, cP_lt, cP_ge, cP_gt, cP_le, eL_i, eL_l, eL_r, eL_n, Option.toList_none, Option.toList_some, List.nil_append, List.cons_append, kkI, llI, nnI, rrI, jjI, kkJ, llJ, nnJ, rrJ, iiJ, zIIs, zJJs, nEF, nET, and_false, false_and, jmin, jmax, catS_n, catS_i, catS_r, catS_l, Nat.reduceLeDiff, j1eq1, n21, jt0, jt1, Bool.false_eq_true, Classical.not_not, true_or, or_true, false_or, or_false, true_imp_iff, false_imp_iff, not_true_eq_false, not_false_eq_true, jif0, jif1, jifb, ltT, ltF, leT, leF, eqT, eqF, jlt, jle, jeq, jlt0, jle0, jeq0, jge0, jgt0, jinB, jnat, clt, cle, ceq, cgt, cge, lI_add, lI_sub, lI_mul, jadd, jsub, jmul, jneg, jtol, b010, b011, pv_2t, Int.toNat_natCast, Option.some.injEq, exists_eq_left', if_true, if_false, Ma, B6, a6]
              have lb : ldC n ga (zsI ga (m + 6) (12 + n) (iI ((c : Int) + 1))) m := (ldC.rf).F (Nat.le_refl _)
              have xb := xa.lk lb (by funext i; rw [zI_s, if_neg (by omega)]) rfl
              have b6 : zI (zsI ga (m + 6) (12 + n) (iI ((c : Int) + 1))) (m + 6) (12 + n) = iI ((c : Int) + 1) := by rw [zI_s, if_pos ⟨rfl, rfl⟩]
              have b5 : zI (zsI ga (m + 6) (12 + n) (iI ((c : Int) + 1))) (m + 5) = zI ga (m + 5) := by funext i; rw [zI_s, if_neg (by omega)]
              have bJ : zJ (zsI ga (m + 6) (12 + n) (iI ((c : Int) + 1))) = zJ ga := rfl
              have b20 : zI (zsI ga (m + 6) (12 + n) (iI ((c : Int) + 1))) m 20 = iI a := by rw [zI_s, if_neg (by omega)]; exact a20
              generalize zsI ga (m + 6) (12 + n) (iI ((c : Int) + 1)) = gb at *
              have Mb := xb.m.k
              have C2 := xb.m.pool
              have w1b : zJ gb (m + 2) (401 * (12 + n) + (200 + a)) = lI (fcN fl c (((200 + a : Nat) : Int) - 200)) := by rw [bJ]; exact w1
              refine vs_ok 15 ?_
              rw [show ((gRes 207).drop 59).take 15 = [.aload 0, .getfield 12052, .iconst 401, .iload 1, .imul, .iconst 200, .iadd, .aload 0, .getfield 12200, .iadd, .dup2, .laload, .jsr_w 1, .ladd, .lastore] from rfl]
              simp (disch := omega) only [vs_iadd, vs_imul, vs_ladd, vs_iconst, vs_jsr_w, vs_getfield, vs_laload, vs_lastore, vs_dup2, vs_aload0, vs_iload1, vs_nil, gv_0, gv_1, gv_2, gv_3, pv_0, pv_1, va_rf_s, Nat.reduceDiv, Nat.reduceMod, Nat.reduceAdd, Nat.reduceMul, Int.reduceToNat, true_and, and_true, and_self, cP_eq, cP_ne, cP_lt, cP_ge, cP_gt, cP_le, eL_i, eL_l, eL_r, eL_n, Option.toList_none, Option.toList_some, List.nil_append, List.cons_append, kkI, llI, nnI, rrI, jjI, kkJ, llJ, nnJ, rrJ, iiJ, zIIs, zJJs, nEF, nET, and_false, false_and, jmin, jmax, catS_n, catS_i, catS_r, catS_l, Nat.reduceLeDiff, j1eq1, n21, jt0, jt1, Bool.false_eq_true, Classical.not_not, true_or, or_true, false_or, or_false, true_imp_iff, false_imp_iff, not_true_eq_false, not_false_eq_true, jif0, jif1, jifb, ltT, ltF, leT, leF, eqT, eqF, jlt, jle, jeq, jlt0, jle0, jeq0, jge0, jgt0, jinB, jnat, clt, cle, ceq, cgt, cge, lI_add, lI_sub, lI_mul, jadd, jsub, jmul, jneg, jtol, b010, b011, pv_2t, Int.toNat_natCast, Option.some.injEq, exists_eq_left', if_true, if_false, Mb, C2, e2, w1b, b20]
              have lc : ldC n gb (zsJ gb (m + 2) (401 * (12 + n) + (200 + a)) (lI (fcN fl c (((200 + a : Nat) : Int) - 200) + 1))) m := ⟨fi_J (by omega), fun i _ _ _ _ _ _ => rfl, fun t ht => ⟨fun k hk => by rw [zJ_sJ, if_neg (by omega)], by rw [zJ_sJ, if_neg (by omega)]⟩, fun _ _ => rfl, fun _ _ => rfl⟩
              have xc := xb.lk lc rfl (by funext i; rw [zJ_sJ, if_neg (by omega)])
              have cI : zI (zsJ gb (m + 2) (401 * (12 + n) + (200 + a)) (lI (fcN fl c (((200 + a : Nat) : Int) - 200) + 1))) = zI gb := rfl
              have cJ : ∀ j, zJ (zsJ gb (m + 2) (401 * (12 + n) + (200 + a)) (lI (fcN fl c (((200 + a : Nat) : Int) - 200) + 1))) (m + 2) j = if j = 401 * (12 + n) + (200 + a) then lI (fcN fl c (((200 + a : Nat) : Int) - 200) + 1) else zJ ga (m + 2) j := fun j => by
                rw [zJ_sJ]
                by_cases z : j = 401 * (12 + n) + (200 + a)
                · rw [if_pos ⟨rfl, z⟩, if_pos z]
                · rw [if_neg (fun y => z y.2), if_neg z, bJ]
              have c3 : zJ (zsJ gb (m + 2) (401 * (12 + n) + (200 + a)) (lI (fcN fl c (((200 + a : Nat) : Int) - 200) + 1))) (m + 3) (12 + n) = lI c := by rw [zJ_sJ, if_neg (by omega), bJ]; exact w2
              generalize zsJ gb (m + 2) (401 * (12 + n) + (200 + a)) (lI (fcN fl c (((200 + a : Nat) : Int) - 200) + 1)) = gc at *
              have Mc := xc.m.k
              have D3 := xc.m.alls
              refine vs_ok 8 ?_
              rw [show ((gRes 207).drop 74).take 8 = [.aload 0, .getfield 12062, .iload 1, .dup2, .laload, .jsr_w 1, .ladd, .lastore] from rfl]
              simp (disch := omega) only [vs_ladd, vs_jsr_w, vs_getfield, vs_laload, vs_lastore, vs_dup2, vs_aload0, vs_iload1, vs_nil, gv_0, gv_1, gv_2, gv_3, pv_0, pv_1, va_rf_s, Nat.reduceDiv, Nat.reduceMod, Nat.reduceAdd, Nat.reduceMul, Int.reduceToNat, true_and, and_true, and_self, cP_eq, cP_ne, cP_lt, cP_ge, cP_gt, cP_le, eL_i, eL_l, eL_r, eL_n, Option.toList_none, Option.toList_some, List.nil_append, List.cons_append, kkI, llI, nnI, rrI, jjI, kkJ, llJ, nnJ, rrJ, iiJ, zIIs, zJJs, nEF, nET, and_false, false_and, jmin, jmax, catS_n, catS_i, catS_r, catS_l, Nat.reduceLeDiff, j1eq1, n21, jt0, jt1, Bool.false_eq_true, Classical.not_not, true_or, or_true, false_or, or_false, true_imp_iff, false_imp_iff, not_true_eq_false, not_false_eq_true, jif0, jif1, jifb, ltT, ltF, leT, leF, eqT, eqF, jlt, jle, jeq, jlt0, jle0, jeq0, jge0, jgt0, jinB, jnat, clt, cle, ceq, cgt, cge, lI_add, lI_sub, lI_mul, jadd, jsub, jmul, jneg, jtol, b010, b011, pv_2t, Int.toNat_natCast, Option.some.injEq, exists_eq_left', if_true, if_false, Mc, D3, c3]
              have ld : ldC n gc (zsJ gc (m + 3) (12 + n) (lI ((c : Int) + 1))) m := ⟨fi_J (by omega), fun i _ _ _ _ _ _ => rfl, fun t ht => ⟨fun k hk => by rw [zJ_sJ, if_neg (by omega)], by rw [zJ_sJ, if_neg (by omega)]⟩, fun _ _ => rfl, fun _ _ => rfl⟩
              have xd := xc.lk ld rfl (by funext i; rw [zJ_sJ, if_neg (by omega)])
              have dd : dieS (zsJ gc (m + 3) (12 + n) (lI ((c : Int) + 1))) m n (c + 1) (fun i => if i = c then (a : Int) else fl i) := by
                refine ⟨?_, by omega, fun i hi => ⟨?_, ?_⟩, fun k hk => ?_, ?_⟩
                · show zI gc (m + 6) (12 + n) = _
                  rw [cI, b6]
                  rfl
                · show zI gc (m + 5) _ = _
                  rw [cI, b5]
                  exact da i hi
                · dsimp only
                  split
                  · omega
                  · exact (d5 i (by omega)).2
                · rw [zJ_sJ, if_neg (by omega), cJ]
                  show _ = lI (fcN (fun i => if i = c then (a : Int) else fl i) c ((k : Int) - 200) + (if (k : Int) - 200 = (if c = c then (a : Int) else fl c) then 1 else 0))
                  rw [if_pos (rfl : c = c), fcN_c (fl' := fl) c (fun i hi => if_neg (by omega))]
                  by_cases z : k = 200 + a
                  · rw [if_pos (by omega), if_pos (by omega), z]
                  · rw [if_neg (by omega), if_neg (by omega), Int.add_zero]
                    exact aW.1 k hk
                · rw [zJ_sJ, if_pos ⟨rfl, rfl⟩]
                  rfl
              have lz := la.tr (lb.tr (lc.tr ld))
              generalize zsJ gc (m + 3) (12 + n) (lI ((c : Int) + 1)) = gd at *
              have Md := xd.m.k
              refine vs_ok 1 ?_
              rw [show ((gRes 207).drop 82).take 1 = [.aload 0] from rfl]
              simp (disch := omega) only [vs_aload0, vs_nil, gv_0, gv_1, gv_2, gv_3, pv_0, pv_1, va_rf_s, Nat.reduceDiv, Nat.reduceMod, Nat.reduceAdd, Nat.reduceMul, Int.reduceToNat, true_and, and_true, and_self, cP_eq, cP_ne, cP_lt, cP_ge, cP_gt, cP_le, eL_i, eL_l, eL_r, eL_n, Option.toList_none, Option.toList_some, List.nil_append, List.cons_append, kkI, llI, nnI, rrI, jjI, kkJ, llJ, nnJ, rrJ, iiJ, zIIs, zJJs, nEF, nET, and_false, false_and, jmin, jmax, catS_n, catS_i, catS_r, catS_l, Nat.reduceLeDiff, j1eq1, n21, jt0, jt1, Bool.false_eq_true, Classical.not_not, true_or, or_true, false_or, or_false, true_imp_iff, false_imp_iff, not_true_eq_false, not_false_eq_true, jif0, jif1, jifb, ltT, ltF, leT, leF, eqT, eqF, jlt, jle, jeq, jlt0, jle0, jeq0, jge0, jgt0, jinB, jnat, clt, cle, ceq, cgt, cge, lI_add, lI_sub, lI_mul, jadd, jsub, jmul, jneg, jtol, b010, b011, pv_2t, Int.toNat_natCast, Option.some.injEq, exists_eq_left', if_true, if_false]
              refine PW.iv rfl rfl rfl Md.1 Md.2 (le_b rfl) (le_b rfl) ?_
              refine t_nxt xd fun g2 c2 x2 => ⟨rfl, ⟨c2.1.1.2.2.1, rfl⟩, ?_⟩
              refine vs_ok 1 ?_
              rw [show ((gRes 207).drop 84).take 1 = [.goto 16] from rfl]
              simp (disch := omega) only [vs_goto, vs_nil, gv_0, gv_1, gv_2, gv_3, pv_0, pv_1, va_rf_s, Nat.reduceDiv, Nat.reduceMod, Nat.reduceAdd, Nat.reduceMul, Int.reduceToNat, true_and, and_true, and_self, cP_eq, cP_ne, cP_lt, cP_ge, cP_gt, cP_le, eL_i, eL_l, eL_r, eL_n, Option.toList_none, Option.toList_some, List.nil_append, List.cons_append, kkI, llI, nnI, rrI, jjI, kkJ, llJ, nnJ, rrJ, iiJ, zIIs, zJJs, nEF, nET, and_false, false_and, jmin, jmax, catS_n, catS_i, catS_r, catS_l, Nat.reduceLeDiff, j1eq1, n21, jt0, jt1, Bool.false_eq_true, Classical.not_not, true_or, or_true, false_or, or_false, true_imp_iff, false_imp_iff, not_true_eq_false, not_false_eq_true, jif0, jif1, jifb, ltT, ltF, leT, leF, eqT, eqF, jlt, jle, jeq, jlt0, jle0, jeq0, jge0, jgt0, jinB, jnat, clt, cle, ceq, cgt, cge, lI_add, lI_sub, lI_mul, jadd, jsub, jmul, jneg, jtol, b010, b011, pv_2t, Int.toNat_natCast, Option.some.injEq, exists_eq_left', if_true, if_false]
              refine ih (c + 1) _ _ _ g2 (by omega) hF (lz.tr c2.ld) x2 (dd.of (c2.1.1.2.2.2.2.2.1 _ (by omega)) (c2.1.1.2.2.2.2.2.1 _ (by omega)) (c2.1.1.2.2.2.2.2.2.1 _ (by omega)) (c2.1.1.2.2.2.2.2.2.1 _ (by omega))) (fun _ => ⟨fun y => ?_, ?_, ?_⟩) (fun z => by omega)
              · show _ = fcN (fun i => if i = c then (a : Int) else fl i) c y + (if y = (if c = c then (a : Int) else fl c) then 1 else 0)
                rw [if_pos (rfl : c = c), fcN_c (fl' := fl) c (fun i hi => if_neg (by omega))]
                by_cases z : c = 0
                · rw [if_pos z, z]
                  show (if y = (a : Int) then 1 else 0) = (0 : Int) + _
                  rw [Int.zero_add]
                · rw [if_neg z, ← (hv z).1 y]
                  show (if y = (a : Int) then v.2.2.2 a + 1 else v.2.2.2 y) = _
                  by_cases z2 : y = (a : Int)
                  · rw [if_pos z2, if_pos z2, z2]
                  · rw [if_neg z2, if_neg z2, Int.add_zero]
              · by_cases z : c = 0
                · rw [if_pos z, z]
                  rfl
                · rw [if_neg z]
                  show v.2.2.1 + 1 = ((c + 1 : Nat) : Int)
                  rw [(hv z).2.1]
                  rfl
              · by_cases z : c = 0
                · rw [if_pos z]
                  exact gV_nu (by omega)
                · rw [if_neg z]
                  exact gV_af (hv z).2.2 (by omega) (by rw [(hv z).2.1]; omega)
            exact p51 _ rfl
      · rw [if_pos q3] at hF
        have c0 : c ≠ 0 := fun z => q3 (h0 z)
        refine vs_ok 4 ?_
        rw [show ((gRes 207).drop 16).take 4 = [.aload 0, .getfield 12170, .iconst 2, .if_icmp .ne 85] from rfl]
        simp (disch := omega) only [vs_iconst, vs_if_icmp, vs_getfield, vs_aload0, vs_nil, gv_0, gv_1, gv_2, gv_3, pv_0, pv_1, va_rf_s, Nat.reduceDiv, Nat.reduceMod, Nat.reduceAdd, Nat.reduceMul, Int.reduceToNat, true_and, and_true, and_self, cP_eq, cP_ne, cP_lt, cP_ge, cP_gt, cP_le, eL_i, eL_l, eL_r, eL_n, Option.toList_none, Option.toList_some, List.nil_append, List.cons_append, kkI, llI, nnI, rrI, jjI, kkJ, llJ, nnJ, rrJ, iiJ, zIIs, zJJs, nEF, nET, and_false, false_and, jmin, jmax, catS_n, catS_i, catS_r, catS_l, Nat.reduceLeDiff, j1eq1, n21, jt0, jt1, Bool.false_eq_true, Classical.not_not, true_or, or_true, false_or, or_false, true_imp_iff, false_imp_iff, not_true_eq_false, not_false_eq_true, jif0, jif1, jifb, ltT, ltF, leT, leF, eqT, eqF, jlt, jle, jeq, jlt0, jle0, jeq0, jge0, jgt0, jinB, jnat, clt, cle, ceq, cgt, cge, lI_add, lI_sub, lI_mul, jadd, jsub, jmul, jneg, jtol, b010, b011, pv_2t, Int.toNat_natCast, Option.some.injEq, exists_eq_left', if_true, if_false, M, h17]
        refine vs_ok 2 ?_
        rw [show ((gRes 207).drop 85).take 2 = [.iconst 1, .ireturn] from rfl]
        simp (disch := omega) only [vs_iconst, vs_ireturn, vs_nil, gv_0, gv_1, gv_2, gv_3, pv_0, pv_1, va_rf_s, Nat.reduceDiv, Nat.reduceMod, Nat.reduceAdd, Nat.reduceMul, Int.reduceToNat, true_and, and_true, and_self, cP_eq, cP_ne, cP_lt, cP_ge, cP_gt, cP_le, eL_i, eL_l, eL_r, eL_n, Option.toList_none, Option.toList_some, List.nil_append, List.cons_append, kkI, llI, nnI, rrI, jjI, kkJ, llJ, nnJ, rrJ, iiJ, zIIs, zJJs, nEF, nET, and_false, false_and, jmin, jmax, catS_n, catS_i, catS_r, catS_l, Nat.reduceLeDiff, j1eq1, n21, jt0, jt1, Bool.false_eq_true, Classical.not_not, true_or, or_true, false_or, or_false, true_imp_iff, false_imp_iff, not_true_eq_false, not_false_eq_true, jif0, jif1, jifb, ltT, ltF, leT, leF, eqT, eqF, jlt, jle, jeq, jlt0, jle0, jeq0, jge0, jgt0, jinB, jnat, clt, cle, ceq, cgt, cge, lI_add, lI_sub, lI_mul, jadd, jsub, jmul, jneg, jtol, b010, b011, pv_2t, Int.toNat_natCast, Option.some.injEq, exists_eq_left', if_true, if_false, show gRc 207 = 2 from rfl]
        rw [← hF] at gd
        exact gd rfl c0 g fl lg xg ⟨d6, d12, d5, dW⟩ (hv c0).1 (hv c0).2.1 (hv c0).2.2
  obtain ⟨tk, h17, htk, et, -⟩ := x1.tk
  have M1 := x1.m.k
  by_cases q3 : s.2.1 = 3
  · refine vs_ok 4 ?_
    rw [show ((gRes 207).drop 8).take 4 = [.aload 0, .getfield 12170, .iconst 2, .if_icmp .eq 16] from rfl]
    simp (disch := omega) only [vs_iconst, vs_if_icmp, vs_getfield, vs_aload0, vs_nil, gv_0, gv_1, gv_2, gv_3, pv_0, pv_1, va_rf_s, Nat.reduceDiv, Nat.reduceMod, Nat.reduceAdd, Nat.reduceMul, Int.reduceToNat, true_and, and_true, and_self, cP_eq, cP_ne, cP_lt, cP_ge, cP_gt, cP_le, eL_i, eL_l, eL_r, eL_n, Option.toList_none, Option.toList_some, List.nil_append, List.cons_append, kkI, llI, nnI, rrI, jjI, kkJ, llJ, nnJ, rrJ, iiJ, zIIs, zJJs, nEF, nET, and_false, false_and, jmin, jmax, catS_n, catS_i, catS_r, catS_l, Nat.reduceLeDiff, j1eq1, n21, jt0, jt1, Bool.false_eq_true, Classical.not_not, true_or, or_true, false_or, or_false, true_imp_iff, false_imp_iff, not_true_eq_false, not_false_eq_true, jif0, jif1, jifb, ltT, ltF, leT, leF, eqT, eqF, jlt, jle, jeq, jlt0, jle0, jeq0, jge0, jgt0, jinB, jnat, clt, cle, ceq, cgt, cge, lI_add, lI_sub, lI_mul, jadd, jsub, jmul, jneg, jtol, b010, b011, pv_2t, Int.toNat_natCast, Option.some.injEq, exists_eq_left', if_true, if_false, M1, h17]
    exact lp 13 0 v0 s (fun _ => 0) g1 (by omega) hR l1 x1 (d1 _) (fun z => absurd rfl z) (fun _ => q3)
  · have e : R = (true, 0, 0, s, 0, v0) := by
      rw [← hR]
      unfold fcS
      rw [if_pos q3]
    refine vs_ok 4 ?_
    rw [show ((gRes 207).drop 8).take 4 = [.aload 0, .getfield 12170, .iconst 2, .if_icmp .eq 16] from rfl]
    simp (disch := omega) only [vs_iconst, vs_if_icmp, vs_getfield, vs_aload0, vs_nil, gv_0, gv_1, gv_2, gv_3, pv_0, pv_1, va_rf_s, Nat.reduceDiv, Nat.reduceMod, Nat.reduceAdd, Nat.reduceMul, Int.reduceToNat, true_and, and_true, and_self, cP_eq, cP_ne, cP_lt, cP_ge, cP_gt, cP_le, eL_i, eL_l, eL_r, eL_n, Option.toList_none, Option.toList_some, List.nil_append, List.cons_append, kkI, llI, nnI, rrI, jjI, kkJ, llJ, nnJ, rrJ, iiJ, zIIs, zJJs, nEF, nET, and_false, false_and, jmin, jmax, catS_n, catS_i, catS_r, catS_l, Nat.reduceLeDiff, j1eq1, n21, jt0, jt1, Bool.false_eq_true, Classical.not_not, true_or, or_true, false_or, or_false, true_imp_iff, false_imp_iff, not_true_eq_false, not_false_eq_true, jif0, jif1, jifb, ltT, ltF, leT, leF, eqT, eqF, jlt, jle, jeq, jlt0, jle0, jeq0, jge0, jgt0, jinB, jnat, clt, cle, ceq, cgt, cge, lI_add, lI_sub, lI_mul, jadd, jsub, jmul, jneg, jtol, b010, b011, pv_2t, Int.toNat_natCast, Option.some.injEq, exists_eq_left', if_true, if_false, M1, h17]
    refine vs_ok 2 ?_
    rw [show ((gRes 207).drop 12).take 2 = [.aload 0, .iconst 1] from rfl]
    simp (disch := omega) only [vs_iconst, vs_aload0, vs_nil, gv_0, gv_1, gv_2, gv_3, pv_0, pv_1, va_rf_s, Nat.reduceDiv, Nat.reduceMod, Nat.reduceAdd, Nat.reduceMul, Int.reduceToNat, true_and, and_true, and_self, cP_eq, cP_ne, cP_lt, cP_ge, cP_gt, cP_le, eL_i, eL_l, eL_r, eL_n, Option.toList_none, Option.toList_some, List.nil_append, List.cons_append, kkI, llI, nnI, rrI, jjI, kkJ, llJ, nnJ, rrJ, iiJ, zIIs, zJJs, nEF, nET, and_false, false_and, jmin, jmax, catS_n, catS_i, catS_r, catS_l, Nat.reduceLeDiff, j1eq1, n21, jt0, jt1, Bool.false_eq_true, Classical.not_not, true_or, or_true, false_or, or_false, true_imp_iff, false_imp_iff, not_true_eq_false, not_false_eq_true, jif0, jif1, jifb, ltT, ltF, leT, leF, eqT, eqF, jlt, jle, jeq, jlt0, jle0, jeq0, jge0, jgt0, jinB, jnat, clt, cle, ceq, cgt, cge, lI_add, lI_sub, lI_mul, jadd, jsub, jmul, jneg, jtol, b010, b011, pv_2t, Int.toNat_natCast, Option.some.injEq, exists_eq_left', if_true, if_false]
    refine PW.iv rfl rfl rfl M1.1 M1.2 (le_b rfl) (le_b rfl) ?_
    refine t_bad x1 fun g2 f2 => ⟨rfl, ⟨f2.1.n, rfl⟩, ?_⟩
    refine vs_ok 1 ?_
    rw [show ((gRes 207).drop 15).take 1 = [.ireturn] from rfl]
    simp (disch := omega) only [vs_ireturn, vs_nil, gv_0, gv_1, gv_2, gv_3, pv_0, pv_1, va_rf_s, Nat.reduceDiv, Nat.reduceMod, Nat.reduceAdd, Nat.reduceMul, Int.reduceToNat, true_and, and_true, and_self, cP_eq, cP_ne, cP_lt, cP_ge, cP_gt, cP_le, eL_i, eL_l, eL_r, eL_n, Option.toList_none, Option.toList_some, List.nil_append, List.cons_append, kkI, llI, nnI, rrI, jjI, kkJ, llJ, nnJ, rrJ, iiJ, zIIs, zJJs, nEF, nET, and_false, false_and, jmin, jmax, catS_n, catS_i, catS_r, catS_l, Nat.reduceLeDiff, j1eq1, n21, jt0, jt1, Bool.false_eq_true, Classical.not_not, true_or, or_true, false_or, or_false, true_imp_iff, false_imp_iff, not_true_eq_false, not_false_eq_true, jif0, jif1, jifb, ltT, ltF, leT, leF, eqT, eqF, jlt, jle, jeq, jlt0, jle0, jeq0, jge0, jgt0, jinB, jnat, clt, cle, ceq, cgt, cge, lI_add, lI_sub, lI_mul, jadd, jsub, jmul, jneg, jtol, b010, b011, pv_2t, Int.toNat_natCast, Option.some.injEq, exists_eq_left', if_true, if_false, show gRc 207 = 2 from rfl]
    exact bd 1 s.2.2.2 (Or.inr (by rw [e]; exact ⟨rfl, rfl, rfl, rfl⟩)) g2 (l1.bf.tr f2.1.bf) f2.2.1 f2.2.2
/-- a SUM's line: '=', the SUM, its value kept -/
theorem t_M_let {D : Nat} {h : Hp} {m sz n : Nat} {B Wd : Nat → Int} {Vn : Nat → RowVal} {s : R4} {q : PRes} {Q : Nat → Option Value → Hp → Prop} (x : suG h m sz n B Wd Vn s false) (hn : n < 12) (hr : sgP s 61 → smS B sz Wd n Vn 500 none 0 (nx B sz s) = some q)
    (gd : sgP s 61 → q.1 = true → ∀ g tm, ldC n h g m → suG g m sz n B Wd Vn q.2.2.2.1 tm → zI g (m + 6) (12 + n) = iI 0 → slO g m (12 + n) q.2.2.2.2 tm → tm = q.2.2.2.2.isNone → Q 0 (some (.int (iI 1))) g)
    (bd : ∀ k p, (¬ sgP s 61 ∧ k = 1 ∧ p = s.2.2.2 ∨ sgP s 61 ∧ q.1 = false ∧ k = q.2.1 ∧ p = q.2.2.1) → ∀ g, rdF h g m → zI g m 21 = iI k → e22 g m p → Q 0 (some (.int (iI 0))) g) : PR (D + 5) m_M_let [.ref m, .int (iI ((12 + n : Nat) : Int))] h Q := by
  have M := x.m.k
  have A6 := x.m.faceMany
  show PW (D + 5) 208 0 [some (.ref m), some (.int (iI ((12 + n : Nat) : Int)))] [] h Q
  refine vs_ok 5 ?_
  rw [show ((gRes 208).drop 0).take 5 = [.aload 0, .getfield 12102, .iload 1, .iconst 0, .iastore] from rfl]
  simp (disch := omega) only [vs_iconst, vs_getfield, vs_iastore, vs_aload0, vs_iload1, vs_nil, gv_0, gv_1, gv_2, gv_3, pv_0, pv_1, va_rf_s, Nat.reduceDiv, Nat.reduceMod, Nat.reduceAdd, Nat.reduceMul, Int.reduceToNat, true_and, and_true, and_self, cP_eq, cP_ne, cP_lt, cP_ge, cP_gt, cP_le, eL_i, eL_l, eL_r, eL_n, Option.toList_none, Option.toList_some, List.nil_append, List.cons_append, kkI, llI, nnI, rrI, jjI, kkJ, llJ, nnJ, rrJ, iiJ, zIIs, zJJs, nEF, nET, and_false, false_and, jmin, jmax, catS_n, catS_i, catS_r, catS_l, Nat.reduceLeDiff, j1eq1, n21, jt0, jt1, Bool.false_eq_true, Classical.not_not, true_or, or_true, false_or, or_false, true_imp_iff, false_imp_iff, not_true_eq_false, not_false_eq_true, jif0, jif1, jifb, ltT, ltF, leT, leF, eqT, eqF, jlt, jle, jeq, jlt0, jle0, jeq0, jge0, jgt0, jinB, jnat, clt, cle, ceq, cgt, cge, lI_add, lI_sub, lI_mul, jadd, jsub, jmul, jneg, jtol, b010, b011, pv_2t, Int.toNat_natCast, Option.some.injEq, exists_eq_left', if_true, if_false, M, A6]
  have l1 : ldC n h (zsI h (m + 6) (12 + n) (iI 0)) m := (ldC.rf).F (Nat.le_refl _)
  have x1 := x.lk l1 (by funext i; rw [zI_s, if_neg (by omega)]) rfl
  have k1 : zI (zsI h (m + 6) (12 + n) (iI 0)) (m + 6) (12 + n) = iI 0 := by rw [zI_s, if_pos ⟨rfl, rfl⟩]
  generalize zsI h (m + 6) (12 + n) (iI 0) = g1 at *
  have M1 := x1.m.k
  refine vs_ok 2 ?_
  rw [show ((gRes 208).drop 5).take 2 = [.aload 0, .iconst 61] from rfl]
  simp (disch := omega) only [vs_iconst, vs_aload0, vs_nil, gv_0, gv_1, gv_2, gv_3, pv_0, pv_1, va_rf_s, Nat.reduceDiv, Nat.reduceMod, Nat.reduceAdd, Nat.reduceMul, Int.reduceToNat, true_and, and_true, and_self, cP_eq, cP_ne, cP_lt, cP_ge, cP_gt, cP_le, eL_i, eL_l, eL_r, eL_n, Option.toList_none, Option.toList_some, List.nil_append, List.cons_append, kkI, llI, nnI, rrI, jjI, kkJ, llJ, nnJ, rrJ, iiJ, zIIs, zJJs, nEF, nET, and_false, false_and, jmin, jmax, catS_n, catS_i, catS_r, catS_l, Nat.reduceLeDiff, j1eq1, n21, jt0, jt1, Bool.false_eq_true, Classical.not_not, true_or, or_true, false_or, or_false, true_imp_iff, false_imp_iff, not_true_eq_false, not_false_eq_true, jif0, jif1, jifb, ltT, ltF, leT, leF, eqT, eqF, jlt, jle, jeq, jlt0, jle0, jeq0, jge0, jgt0, jinB, jnat, clt, cle, ceq, cgt, cge, lI_add, lI_sub, lI_mul, jadd, jsub, jmul, jneg, jtol, b010, b011, pv_2t, Int.toNat_natCast, Option.some.injEq, exists_eq_left', if_true, if_false]
  refine PW.iv rfl rfl rfl M1.1 M1.2 (le_b rfl) (le_b rfl) ?_
  refine t_M_sign x1 (by omega) (fun c g2 c2 x2 => ⟨rfl, ⟨c2.1.1.2.2.1, rfl⟩, ?_⟩) (fun c g2 f2 => ⟨rfl, ⟨f2.1.n, rfl⟩, ?_⟩)
  · have M2 := x2.m.k
    have hq := hr c
    refine vs_ok 1 ?_
    rw [show ((gRes 208).drop 8).take 1 = [.ifCond .eq 12] from rfl]
    simp (disch := omega) only [vs_ifCond, vs_nil, gv_0, gv_1, gv_2, gv_3, pv_0, pv_1, va_rf_s, Nat.reduceDiv, Nat.reduceMod, Nat.reduceAdd, Nat.reduceMul, Int.reduceToNat, true_and, and_true, and_self, cP_eq, cP_ne, cP_lt, cP_ge, cP_gt, cP_le, eL_i, eL_l, eL_r, eL_n, Option.toList_none, Option.toList_some, List.nil_append, List.cons_append, kkI, llI, nnI, rrI, jjI, kkJ, llJ, nnJ, rrJ, iiJ, zIIs, zJJs, nEF, nET, and_false, false_and, jmin, jmax, catS_n, catS_i, catS_r, catS_l, Nat.reduceLeDiff, j1eq1, n21, jt0, jt1, Bool.false_eq_true, Classical.not_not, true_or, or_true, false_or, or_false, true_imp_iff, false_imp_iff, not_true_eq_false, not_false_eq_true, jif0, jif1, jifb, ltT, ltF, leT, leF, eqT, eqF, jlt, jle, jeq, jlt0, jle0, jeq0, jge0, jgt0, jinB, jnat, clt, cle, ceq, cgt, cge, lI_add, lI_sub, lI_mul, jadd, jsub, jmul, jneg, jtol, b010, b011, pv_2t, Int.toNat_natCast, Option.some.injEq, exists_eq_left', if_true, if_false]
    refine vs_ok 1 ?_
    rw [show ((gRes 208).drop 9).take 1 = [.aload 0] from rfl]
    simp (disch := omega) only [vs_aload0, vs_nil, gv_0, gv_1, gv_2, gv_3, pv_0, pv_1, va_rf_s, Nat.reduceDiv, Nat.reduceMod, Nat.reduceAdd, Nat.reduceMul, Int.reduceToNat, true_and, and_true, and_self, cP_eq, cP_ne, cP_lt, cP_ge, cP_gt, cP_le, eL_i, eL_l, eL_r, eL_n, Option.toList_none, Option.toList_some, List.nil_append, List.cons_append, kkI, llI, nnI, rrI, jjI, kkJ, llJ, nnJ, rrJ, iiJ, zIIs, zJJs, nEF, nET, and_false, false_and, jmin, jmax, catS_n, catS_i, catS_r, catS_l, Nat.reduceLeDiff, j1eq1, n21, jt0, jt1, Bool.false_eq_true, Classical.not_not, true_or, or_true, false_or, or_false, true_imp_iff, false_imp_iff, not_true_eq_false, not_false_eq_true, jif0, jif1, jifb, ltT, ltF, leT, leF, eqT, eqF, jlt, jle, jeq, jlt0, jle0, jeq0, jge0, jgt0, jinB, jnat, clt, cle, ceq, cgt, cge, lI_add, lI_sub, lI_mul, jadd, jsub, jmul, jneg, jtol, b010, b011, pv_2t, Int.toNat_natCast, Option.some.injEq, exists_eq_left', if_true, if_false]
    refine PW.iv rfl rfl rfl M2.1 M2.2 (le_b rfl) (le_b rfl) ?_
    refine t_M_sum x2 hq (fun z g3 tm c3 x3 v3 e3 => ⟨rfl, ⟨c3.1.1.2.2.1, rfl⟩, ?_⟩) (fun z g3 c3 h21 h22 => ⟨rfl, ⟨c3.1.1.2.2.1, rfl⟩, ?_⟩)
    · have M3 := x3.m.k
      have l3 := l1.tr ((c2.ld (n := n)).tr (c3.ld (by omega)))
      have k3 : zI g3 (m + 6) (12 + n) = iI 0 := by rw [c3.1.1.2.2.2.2.2.1 (m + 6) (by omega), c2.1.1.2.2.2.2.2.1 (m + 6) (by omega)]; exact k1
      refine vs_ok 1 ?_
      rw [show ((gRes 208).drop 11).take 1 = [.ifCond .ne 14] from rfl]
      simp (disch := omega) only [vs_ifCond, vs_nil, gv_0, gv_1, gv_2, gv_3, pv_0, pv_1, va_rf_s, Nat.reduceDiv, Nat.reduceMod, Nat.reduceAdd, Nat.reduceMul, Int.reduceToNat, true_and, and_true, and_self, cP_eq, cP_ne, cP_lt, cP_ge, cP_gt, cP_le, eL_i, eL_l, eL_r, eL_n, Option.toList_none, Option.toList_some, List.nil_append, List.cons_append, kkI, llI, nnI, rrI, jjI, kkJ, llJ, nnJ, rrJ, iiJ, zIIs, zJJs, nEF, nET, and_false, false_and, jmin, jmax, catS_n, catS_i, catS_r, catS_l, Nat.reduceLeDiff, j1eq1, n21, jt0, jt1, Bool.false_eq_true, Classical.not_not, true_or, or_true, false_or, or_false, true_imp_iff, false_imp_iff, not_true_eq_false, not_false_eq_true, jif0, jif1, jifb, ltT, ltF, leT, leF, eqT, eqF, jlt, jle, jeq, jlt0, jle0, jeq0, jge0, jgt0, jinB, jnat, clt, cle, ceq, cgt, cge, lI_add, lI_sub, lI_mul, jadd, jsub, jmul, jneg, jtol, b010, b011, pv_2t, Int.toNat_natCast, Option.some.injEq, exists_eq_left', if_true, if_false]
      refine vs_ok 3 ?_
      rw [show ((gRes 208).drop 14).take 3 = [.aload 0, .iconst 24, .iload 1] from rfl]
      simp (disch := omega) only [vs_iconst, vs_aload0, vs_iload1, vs_nil, gv_0, gv_1, gv_2, gv_3, pv_0, pv_1, va_rf_s, Nat.reduceDiv, Nat.reduceMod, Nat.reduceAdd, Nat.reduceMul, Int.reduceToNat, true_and, and_true, and_self, cP_eq, cP_ne, cP_lt, cP_ge, cP_gt, cP_le, eL_i, eL_l, eL_r, eL_n, Option.toList_none, Option.toList_some, List.nil_append, List.cons_append, kkI, llI, nnI, rrI, jjI, kkJ, llJ, nnJ, rrJ, iiJ, zIIs, zJJs, nEF, nET, and_false, false_and, jmin, jmax, catS_n, catS_i, catS_r, catS_l, Nat.reduceLeDiff, j1eq1, n21, jt0, jt1, Bool.false_eq_true, Classical.not_not, true_or, or_true, false_or, or_false, true_imp_iff, false_imp_iff, not_true_eq_false, not_false_eq_true, jif0, jif1, jifb, ltT, ltF, leT, leF, eqT, eqF, jlt, jle, jeq, jlt0, jle0, jeq0, jge0, jgt0, jinB, jnat, clt, cle, ceq, cgt, cge, lI_add, lI_sub, lI_mul, jadd, jsub, jmul, jneg, jtol, b010, b011, pv_2t, Int.toNat_natCast, Option.some.injEq, exists_eq_left', if_true, if_false]
      refine PW.iv rfl rfl rfl M3.1 M3.2 (le_b rfl) (le_b rfl) ?_
      refine t_copyO (a := 24) (b := 12 + n) x3.m (show 24 < 49 by omega) (show 12 + n < 49 by omega) (by omega) v3 fun g4 p4 eI4 v4 => ⟨rfl, ⟨p4.1.1.2.2.1, rfl⟩, ?_⟩
      have l4 : ldC n g3 g4 m := ⟨p4.1.wk fun q z => by omega, fun i _ _ _ _ _ _ => by rw [eI4], fun s hs => p4.2.2.2.2 s (by omega) (by omega), fun j _ => by rw [eI4], fun j _ => by rw [eI4]⟩
      have x4 := x3.lk l4 (by rw [eI4]) p4.2.2.2.1
      refine vs_ok 2 ?_
      rw [show ((gRes 208).drop 18).take 2 = [.iconst 1, .ireturn] from rfl]
      simp (disch := omega) only [vs_iconst, vs_ireturn, vs_nil, gv_0, gv_1, gv_2, gv_3, pv_0, pv_1, va_rf_s, Nat.reduceDiv, Nat.reduceMod, Nat.reduceAdd, Nat.reduceMul, Int.reduceToNat, true_and, and_true, and_self, cP_eq, cP_ne, cP_lt, cP_ge, cP_gt, cP_le, eL_i, eL_l, eL_r, eL_n, Option.toList_none, Option.toList_some, List.nil_append, List.cons_append, kkI, llI, nnI, rrI, jjI, kkJ, llJ, nnJ, rrJ, iiJ, zIIs, zJJs, nEF, nET, and_false, false_and, jmin, jmax, catS_n, catS_i, catS_r, catS_l, Nat.reduceLeDiff, j1eq1, n21, jt0, jt1, Bool.false_eq_true, Classical.not_not, true_or, or_true, false_or, or_false, true_imp_iff, false_imp_iff, not_true_eq_false, not_false_eq_true, jif0, jif1, jifb, ltT, ltF, leT, leF, eqT, eqF, jlt, jle, jeq, jlt0, jle0, jeq0, jge0, jgt0, jinB, jnat, clt, cle, ceq, cgt, cge, lI_add, lI_sub, lI_mul, jadd, jsub, jmul, jneg, jtol, b010, b011, pv_2t, Int.toNat_natCast, Option.some.injEq, exists_eq_left', if_true, if_false, show gRc 208 = 2 from rfl]
      refine gd c z g4 tm (l3.tr l4) x4 (by rw [eI4]; exact k3) v4 ?_
      rw [e3]
      rfl
    · refine vs_ok 1 ?_
      rw [show ((gRes 208).drop 11).take 1 = [.ifCond .ne 14] from rfl]
      simp (disch := omega) only [vs_ifCond, vs_nil, gv_0, gv_1, gv_2, gv_3, pv_0, pv_1, va_rf_s, Nat.reduceDiv, Nat.reduceMod, Nat.reduceAdd, Nat.reduceMul, Int.reduceToNat, true_and, and_true, and_self, cP_eq, cP_ne, cP_lt, cP_ge, cP_gt, cP_le, eL_i, eL_l, eL_r, eL_n, Option.toList_none, Option.toList_some, List.nil_append, List.cons_append, kkI, llI, nnI, rrI, jjI, kkJ, llJ, nnJ, rrJ, iiJ, zIIs, zJJs, nEF, nET, and_false, false_and, jmin, jmax, catS_n, catS_i, catS_r, catS_l, Nat.reduceLeDiff, j1eq1, n21, jt0, jt1, Bool.false_eq_true, Classical.not_not, true_or, or_true, false_or, or_false, true_imp_iff, false_imp_iff, not_true_eq_false, not_false_eq_true, jif0, jif1, jifb, ltT, ltF, leT, leF, eqT, eqF, jlt, jle, jeq, jlt0, jle0, jeq0, jge0, jgt0, jinB, jnat, clt, cle, ceq, cgt, cge, lI_add, lI_sub, lI_mul, jadd, jsub, jmul, jneg, jtol, b010, b011, pv_2t, Int.toNat_natCast, Option.some.injEq, exists_eq_left', if_true, if_false]
      refine vs_ok 2 ?_
      rw [show ((gRes 208).drop 12).take 2 = [.iconst 0, .ireturn] from rfl]
      simp (disch := omega) only [vs_iconst, vs_ireturn, vs_nil, gv_0, gv_1, gv_2, gv_3, pv_0, pv_1, va_rf_s, Nat.reduceDiv, Nat.reduceMod, Nat.reduceAdd, Nat.reduceMul, Int.reduceToNat, true_and, and_true, and_self, cP_eq, cP_ne, cP_lt, cP_ge, cP_gt, cP_le, eL_i, eL_l, eL_r, eL_n, Option.toList_none, Option.toList_some, List.nil_append, List.cons_append, kkI, llI, nnI, rrI, jjI, kkJ, llJ, nnJ, rrJ, iiJ, zIIs, zJJs, nEF, nET, and_false, false_and, jmin, jmax, catS_n, catS_i, catS_r, catS_l, Nat.reduceLeDiff, j1eq1, n21, jt0, jt1, Bool.false_eq_true, Classical.not_not, true_or, or_true, false_or, or_false, true_imp_iff, false_imp_iff, not_true_eq_false, not_false_eq_true, jif0, jif1, jifb, ltT, ltF, leT, leF, eqT, eqF, jlt, jle, jeq, jlt0, jle0, jeq0, jge0, jgt0, jinB, jnat, clt, cle, ceq, cgt, cge, lI_add, lI_sub, lI_mul, jadd, jsub, jmul, jneg, jtol, b010, b011, pv_2t, Int.toNat_natCast, Option.some.injEq, exists_eq_left', if_true, if_false, show gRc 208 = 2 from rfl]
      exact bd _ _ (Or.inr ⟨c, z, rfl, rfl⟩) g3 (l1.bf.tr ((c2.ld (n := n)).bf.tr c3.bf)) h21 h22
  · refine vs_ok 1 ?_
    rw [show ((gRes 208).drop 8).take 1 = [.ifCond .eq 12] from rfl]
    simp (disch := omega) only [vs_ifCond, vs_nil, gv_0, gv_1, gv_2, gv_3, pv_0, pv_1, va_rf_s, Nat.reduceDiv, Nat.reduceMod, Nat.reduceAdd, Nat.reduceMul, Int.reduceToNat, true_and, and_true, and_self, cP_eq, cP_ne, cP_lt, cP_ge, cP_gt, cP_le, eL_i, eL_l, eL_r, eL_n, Option.toList_none, Option.toList_some, List.nil_append, List.cons_append, kkI, llI, nnI, rrI, jjI, kkJ, llJ, nnJ, rrJ, iiJ, zIIs, zJJs, nEF, nET, and_false, false_and, jmin, jmax, catS_n, catS_i, catS_r, catS_l, Nat.reduceLeDiff, j1eq1, n21, jt0, jt1, Bool.false_eq_true, Classical.not_not, true_or, or_true, false_or, or_false, true_imp_iff, false_imp_iff, not_true_eq_false, not_false_eq_true, jif0, jif1, jifb, ltT, ltF, leT, leF, eqT, eqF, jlt, jle, jeq, jlt0, jle0, jeq0, jge0, jgt0, jinB, jnat, clt, cle, ceq, cgt, cge, lI_add, lI_sub, lI_mul, jadd, jsub, jmul, jneg, jtol, b010, b011, pv_2t, Int.toNat_natCast, Option.some.injEq, exists_eq_left', if_true, if_false]
    refine vs_ok 2 ?_
    rw [show ((gRes 208).drop 12).take 2 = [.iconst 0, .ireturn] from rfl]
    simp (disch := omega) only [vs_iconst, vs_ireturn, vs_nil, gv_0, gv_1, gv_2, gv_3, pv_0, pv_1, va_rf_s, Nat.reduceDiv, Nat.reduceMod, Nat.reduceAdd, Nat.reduceMul, Int.reduceToNat, true_and, and_true, and_self, cP_eq, cP_ne, cP_lt, cP_ge, cP_gt, cP_le, eL_i, eL_l, eL_r, eL_n, Option.toList_none, Option.toList_some, List.nil_append, List.cons_append, kkI, llI, nnI, rrI, jjI, kkJ, llJ, nnJ, rrJ, iiJ, zIIs, zJJs, nEF, nET, and_false, false_and, jmin, jmax, catS_n, catS_i, catS_r, catS_l, Nat.reduceLeDiff, j1eq1, n21, jt0, jt1, Bool.false_eq_true, Classical.not_not, true_or, or_true, false_or, or_false, true_imp_iff, false_imp_iff, not_true_eq_false, not_false_eq_true, jif0, jif1, jifb, ltT, ltF, leT, leF, eqT, eqF, jlt, jle, jeq, jlt0, jle0, jeq0, jge0, jgt0, jinB, jnat, clt, cle, ceq, cgt, cge, lI_add, lI_sub, lI_mul, jadd, jsub, jmul, jneg, jtol, b010, b011, pv_2t, Int.toNat_natCast, Option.some.injEq, exists_eq_left', if_true, if_false, show gRc 208 = 2 from rfl]
    exact bd _ _ (Or.inl ⟨c, rfl, rfl⟩) g2 (l1.bf.tr f2.1.bf) f2.2.1 f2.2.2
