/-! Table's constructor -/
theorem inA {h : Hp} {k n : Nat} : (gw (fun _ => False) 1 n h (zNew h k n n)) ∧ zN (zNew h k n n) = zN h + 1 ∧ zK (zNew h k n n) (zN h) = k ∧ zL (zNew h k n n) (zN h) = n ∧ zI (zNew h k n n) (zN h) = (fun _ => 0) ∧ zR (zNew h k n n) (zN h) = (fun _ => none) ∧ zJ (zNew h k n n) (zN h) = (fun _ => 0) := ⟨gw_new, rfl, zNew_K, zNew_L, zNew_I, zNew_R, zNew_J⟩
theorem rowV.gk {S : Nat → Prop} {c s : Nat} {h h' : Hp} {r rc : Nat} {lo hi tot : Int} {W : Int → Int} (hv : rowV h r rc lo hi tot W) (hf : gw S c s h h') (h1 : ¬ S r) (h2 : ¬ S (r + 1)) : rowV h' r rc lo hi tot W := by
  obtain ⟨⟨v1, v2, v3, v4, v5, v6, v7, v8⟩, w1, w2, w3, w4, w5, w6⟩ := hv
  obtain ⟨n1, -, -, f1, f2, f3, f4, f5⟩ := hf
  refine ⟨⟨(f1 r v2).trans v1, by omega, (f1 _ v4).trans v3, by omega, (f2 _ v4).trans v5, ?_, ?_, v8⟩, ?_, ?_, ?_, w4, fun m => ?_, w6⟩
  · rw [f3 r v2 h1, v6]
  · rw [f5 r v2 h1, v7]
  · rw [f3 r v2 h1, w1]
  · rw [f3 r v2 h1, w2]
  · rw [f4 r v2 h1, w3]
  · rw [wAt_eq (f4 (r + 1) v4 h2), w5]
theorem t_Table_init {d : Nat} {h : Hp} {t : Nat} {Q : Nat → Option Value → Hp → Prop} (h1 : zK h t = 7) (h2 : zN h = t + 1) (h3 : t + 28 ≤ zSC) (hI : zI h t = fun _ => 0)
    (hq : ∀ h', gw (fun q => q = t) 27 4908 h h' → isTb h' t 0 (fun _ => 0) (fun _ => 0) → (∀ i, i < 12 → rowV h' (t + 4 + 2 * i) 200 0 0 0 (fun _ => 0)) → Q 0 none h') : PR (d + 1) m_Table_init [.ref t] h Q := by
  have ht : t < zN h := by omega
  have fo : ∀ n, t < n → fOK n [some (.ref t), none] [.ref t] = true := fun n c => by
    show (decide (t < n ∨ t = zSC) && (true && true) && (decide (t < n ∨ t = zSC) && true)) = true
    rw [decide_eq_true (Or.inl c)]
    rfl
  have n12 : (Int32.ofInt 12).toNatClampNeg = 12 := rfl
  show PW (d + 1) 87 0 [some (.ref t), none] [] h Q
  refine vs_ok 5 ?_
  rw [show ((gRes 87).drop 0).take 5 = [.aload 0, .invokedynamic 4, .aload 0, .iconst 12, .anewarray 17] from rfl]
  simp only [vs_iconst, vs_aload0, vs_nil, gv_0, gv_1, gv_2, gv_3, pv_0, pv_1, va_rf_s, vs_anewarray, vs_abs, vs_max, vs_min, vs_oinit, Nat.reduceDiv, Nat.reduceMod, Nat.reduceAdd, Nat.reduceMul, Int.reduceToNat, true_and, and_true, and_self, cP_eq, cP_ne, cP_lt, cP_ge, cP_gt, cP_le, eL_i, eL_l, eL_r, eL_n, Option.toList_none, Option.toList_some, List.nil_append, List.cons_append, n12]
  refine ⟨le_b rfl, ⟨by decide, by decide, by decide, by omega, fo _ ht⟩, ?_⟩
  obtain ⟨a1, a2, a3, a4, a5, a6, a7⟩ := inA (h := h) (k := 17) (n := 12)
  rw [h2] at a2 a3 a4 a5 a6 a7 ⊢
  generalize zNew h 17 12 12 = g1 at *
  have k1 : zK g1 t = 7 := by rw [a1.2.2.2.1 t ht]; exact h1
  refine vs_ok 4 ?_
  rw [show ((gRes 87).drop 5).take 4 = [.putfield 7002, .aload 0, .iconst 12, .newarray .int] from rfl]
  simp only [vs_iconst, vs_putfield, vs_aload0, vs_nil, gv_0, gv_1, gv_2, gv_3, pv_0, pv_1, va_rf_s, vs_newarray, Nat.reduceDiv, Nat.reduceMod, Nat.reduceAdd, Nat.reduceMul, Int.reduceToNat, true_and, and_true, and_self, cP_eq, cP_ne, cP_lt, cP_ge, cP_gt, cP_le, eL_i, eL_l, eL_r, eL_n, Option.toList_none, Option.toList_some, List.nil_append, List.cons_append, n12]
  have b1 : t + 1 < zN g1 := by omega
  refine ⟨⟨k1, by omega⟩, _, if_pos b1, ?_⟩
  have f2 : fr (fun q => q = t) g1 (zsR g1 t 0 (some (t + 1))) := fr_R rfl
  have e2 : zR (zsR g1 t 0 (some (t + 1))) t 0 = some (t + 1) := by rw [zR_sR, if_pos ⟨rfl, rfl⟩]
  have m2 : zI (zsR g1 t 0 (some (t + 1))) t 3 = zI g1 t 3 := rfl
  generalize zsR g1 t 0 (some (t + 1)) = g2 at *
  have c2 : zN g2 = t + 1 + 1 := by rw [f2.2.2.1, a2]
  rw [c2]
  refine ⟨⟨by decide, by decide, by decide, by omega, fo _ (by omega)⟩, ?_⟩
  obtain ⟨a8, a9, aa, ab, ac, -, -⟩ := inA (h := g2) (k := atk ArrayType.int) (n := 12)
  rw [c2] at a9 aa ab ac
  generalize zNew g2 (atk ArrayType.int) 12 12 = g3 at *
  have k3 : zK g3 t = 7 := by rw [a8.2.2.2.1 t (by omega), f2.1]; exact k1
  refine vs_ok 4 ?_
  rw [show ((gRes 87).drop 9).take 4 = [.putfield 7012, .aload 0, .iconst 12, .newarray .int] from rfl]
  simp only [vs_iconst, vs_putfield, vs_aload0, vs_nil, gv_0, gv_1, gv_2, gv_3, pv_0, pv_1, va_rf_s, vs_newarray, Nat.reduceDiv, Nat.reduceMod, Nat.reduceAdd, Nat.reduceMul, Int.reduceToNat, true_and, and_true, and_self, cP_eq, cP_ne, cP_lt, cP_ge, cP_gt, cP_le, eL_i, eL_l, eL_r, eL_n, Option.toList_none, Option.toList_some, List.nil_append, List.cons_append, n12]
  have b3 : t + 1 + 1 < zN g3 := by omega
  refine ⟨⟨k3, by omega⟩, _, if_pos b3, ?_⟩
  have f4 : fr (fun q => q = t) g3 (zsR g3 t 1 (some (t + 1 + 1))) := fr_R rfl
  have e4 : zR (zsR g3 t 1 (some (t + 1 + 1))) t 1 = some (t + 2) := by rw [zR_sR, if_pos ⟨rfl, rfl⟩]
  have d4 : zR (zsR g3 t 1 (some (t + 1 + 1))) t 0 = some (t + 1) := by
    rw [zR_sR, if_neg (by simp), a8.2.2.2.2.2.2.2 t (by omega) (fun c => c), e2]
  have m4 : zI (zsR g3 t 1 (some (t + 1 + 1))) t 3 = zI g3 t 3 := rfl
  generalize zsR g3 t 1 (some (t + 1 + 1)) = g4 at *
  have c4 : zN g4 = t + 1 + 1 + 1 := by rw [f4.2.2.1, a9]
  rw [c4]
  refine ⟨⟨by decide, by decide, by decide, by omega, fo _ (by omega)⟩, ?_⟩
  obtain ⟨ad, ae, af, ag, ah, -, -⟩ := inA (h := g4) (k := atk ArrayType.int) (n := 12)
  rw [c4] at ae af ag ah
  generalize zNew g4 (atk ArrayType.int) 12 12 = g5 at *
  have k5 : zK g5 t = 7 := by rw [ad.2.2.2.1 t (by omega), f4.1]; exact k3
  refine vs_ok 3 ?_
  rw [show ((gRes 87).drop 13).take 3 = [.putfield 7022, .iconst 0, .istore 1] from rfl]
  simp only [vs_iconst, vs_putfield, vs_istore1n, vs_istore1i, vs_istore1r, vs_istore1l, vs_nil, gv_0, gv_1, gv_2, gv_3, pv_0, pv_1, va_rf_s, Nat.reduceDiv, Nat.reduceMod, Nat.reduceAdd, Nat.reduceMul, Int.reduceToNat, true_and, and_true, and_self, cP_eq, cP_ne, cP_lt, cP_ge, cP_gt, cP_le, eL_i, eL_l, eL_r, eL_n, Option.toList_none, Option.toList_some, List.nil_append, List.cons_append]
  have b5 : t + 1 + 1 + 1 < zN g5 := by omega
  refine ⟨⟨k5, by omega⟩, _, if_pos b5, ?_⟩
  have f6 : fr (fun q => q = t) g5 (zsR g5 t 2 (some (t + 1 + 1 + 1))) := fr_R rfl
  have e6 : zR (zsR g5 t 2 (some (t + 1 + 1 + 1))) t 2 = some (t + 3) := by rw [zR_sR, if_pos ⟨rfl, rfl⟩]
  have d6 : zR (zsR g5 t 2 (some (t + 1 + 1 + 1))) t 0 = some (t + 1) := by
    rw [zR_sR, if_neg (by simp), ad.2.2.2.2.2.2.2 t (by omega) (fun c => c), d4]
  have d7 : zR (zsR g5 t 2 (some (t + 1 + 1 + 1))) t 1 = some (t + 2) := by
    rw [zR_sR, if_neg (by simp), ad.2.2.2.2.2.2.2 t (by omega) (fun c => c), e4]
  have m6 : zI (zsR g5 t 2 (some (t + 1 + 1 + 1))) t 3 = zI g5 t 3 := rfl
  generalize zsR g5 t 2 (some (t + 1 + 1 + 1)) = g6 at *
  have c6 : zN g6 = t + 4 := by rw [f6.2.2.1, ae]
  have k6 : zK g6 t = 7 := by rw [f6.1]; exact k5
  have W : gw (fun q => q = t) 3 36 h g6 := by
    have w := (((((a1.wk (T := fun q => q = t) (fun _ _ c => c.elim)).tr ((gw.of_fr f2).wk (fun _ _ c => Or.inl c))).tr (a8.wk (fun _ _ c => c.elim))).tr ((gw.of_fr f4).wk (fun _ _ c => Or.inl c))).tr (ad.wk (fun _ _ c => c.elim))).tr ((gw.of_fr f6).wk (fun _ _ c => Or.inl c))
    exact w
  have I6 : zI g6 t 3 = 0 := by
    rw [m6, ad.2.2.2.2.2.1 t (by omega) (fun c => c), m4, a8.2.2.2.2.2.1 t (by omega) (fun c => c), m2, a1.2.2.2.2.2.1 t (by omega) (fun c => c), hI]
  have K7 : zK g6 (t + 1) = 17 ∧ zL g6 (t + 1) = 12 := by
    rw [f6.1, f6.2.1, ad.2.2.2.1 _ (by omega), ad.2.2.2.2.1 _ (by omega), f4.1, f4.2.1, a8.2.2.2.1 _ (by omega), a8.2.2.2.2.1 _ (by omega), f2.1, f2.2.1]
    exact ⟨a3, a4⟩
  have K8 : zK g6 (t + 2) = 14 ∧ zL g6 (t + 2) = 12 ∧ zI g6 (t + 2) = fun _ => 0 := by
    rw [f6.1, f6.2.1, f6.2.2.2.2.2.1 (t + 2) (by omega), ad.2.2.2.1 _ (by omega), ad.2.2.2.2.1 _ (by omega), ad.2.2.2.2.2.1 _ (by omega) (fun c => c), f4.1, f4.2.1, f4.2.2.2.2.2.1 (t + 2) (by omega)]
    exact ⟨aa, ab, ac⟩
  have K9 : zK g6 (t + 3) = 14 ∧ zL g6 (t + 3) = 12 ∧ zI g6 (t + 3) = fun _ => 0 := by
    rw [f6.1, f6.2.1, f6.2.2.2.2.2.1 (t + 3) (by omega)]
    exact ⟨af, ag, ah⟩
  clear a1 a2 a3 a4 a5 a6 a7 k1 b1 f2 e2 m2 c2 a8 a9 aa ab ac k3 b3 f4 e4 d4 m4 c4 ad ae af ag ah k5 b5 f6 m6
  have loop : ∀ (k i : Nat) (g : Hp), k + i = 12 → gw (fun q => q = t + 1) (2 * i) (406 * i) g6 g → (∀ j, j < i → zR g (t + 1) j = some (t + 4 + 2 * j) ∧ rowV g (t + 4 + 2 * j) 200 0 0 0 (fun _ => 0)) → PW (d + 1) 87 16 [some (.ref t), some (.int (iI i))] [] g Q := by
    intro k
    induction k with
    | zero =>
      intro i g hk hw hr
      have hi : i = 12 := by omega
      subst hi
      have k1 : zK g t = 7 := by rw [hw.2.2.2.1 t (by omega), k6]
      have k2 : t < zN g := by rw [hw.1]; omega
      have k3 : zR g t 0 = some (t + 1) := by rw [hw.2.2.2.2.2.2.2 t (by omega) (by omega), d6]
      have k4 : zK g (t + 1) = 17 := by rw [hw.2.2.2.1 _ (by omega), K7.1]
      have k5 : zL g (t + 1) = 12 := by rw [hw.2.2.2.2.1 _ (by omega), K7.2]
      have k7 : t + 1 < zN g := by rw [hw.1]; omega
      have k8 : zN g = t + 28 := by rw [hw.1]; omega
      refine vs_ok 5 ?_
      rw [show ((gRes 87).drop 16).take 5 = [.iload 1, .aload 0, .getfield 7002, .arraylength, .if_icmp .ge 31] from rfl]
      simp only [vs_if_icmp, vs_getfield, vs_arraylength, vs_aload0, vs_iload1, vs_nil, gv_0, gv_1, gv_2, gv_3, pv_0, pv_1, va_rf_s, Nat.reduceDiv, Nat.reduceMod, Nat.reduceAdd, Nat.reduceMul, Int.reduceToNat, true_and, and_true, and_self, cP_eq, cP_ne, cP_lt, cP_ge, cP_gt, cP_le, eL_i, eL_l, eL_r, eL_n, Option.toList_none, Option.toList_some, List.nil_append, List.cons_append, k1, k2, k3, k4, k5, k7, or_true, true_or]
      rw [show Int32.ofNat 12 = iI 12 from rfl, iI_le (by constructor <;> omega) (by constructor <;> omega)]
      refine ⟨fun _ => ?_, fun c => absurd c (by omega)⟩
      refine vs_ok 1 ?_
      rw [show ((gRes 87).drop 31).take 1 = [.return_] from rfl]
      simp only [vs_return_, vs_nil, gv_0, gv_1, gv_2, gv_3, pv_0, pv_1, va_rf_s, Nat.reduceDiv, Nat.reduceMod, Nat.reduceAdd, Nat.reduceMul, Int.reduceToNat, true_and, and_true, and_self, cP_eq, cP_ne, cP_lt, cP_ge, cP_gt, cP_le, eL_i, eL_l, eL_r, eL_n, Option.toList_none, Option.toList_some, List.nil_append, List.cons_append]
      refine ⟨by decide, hq g (W.tr (hw.wk fun q _ c => Or.inr (by omega))) ⟨k1, by omega, ⟨k3, k4, k5, fun j hj => (hr j hj).1⟩, ⟨?_, ?_, ?_, fun j _ => ?_⟩, ⟨?_, ?_, ?_, fun j _ => ?_⟩, ?_, by omega, by omega⟩ fun j hj => (hr j hj).2⟩
      · rw [hw.2.2.2.2.2.2.2 t (by omega) (by omega), d7]
      · rw [hw.2.2.2.1 _ (by omega), K8.1]
      · rw [hw.2.2.2.2.1 _ (by omega), K8.2.1]
      · rw [hw.2.2.2.2.2.1 _ (by omega) (by omega), K8.2.2]
        rfl
      · rw [hw.2.2.2.2.2.2.2 t (by omega) (by omega), e6]
      · rw [hw.2.2.2.1 _ (by omega), K9.1]
      · rw [hw.2.2.2.2.1 _ (by omega), K9.2.1]
      · rw [hw.2.2.2.2.2.1 _ (by omega) (by omega), K9.2.2]
        rfl
      · rw [hw.2.2.2.2.2.1 _ (by omega) (by omega), I6]
        rfl
    | succ k ih =>
      intro i g hk hw hr
      have k1 : zK g t = 7 := by rw [hw.2.2.2.1 t (by omega), k6]
      have k2 : t < zN g := by rw [hw.1]; omega
      have k3 : zR g t 0 = some (t + 1) := by rw [hw.2.2.2.2.2.2.2 t (by omega) (by omega), d6]
      have k4 : zK g (t + 1) = 17 := by rw [hw.2.2.2.1 _ (by omega), K7.1]
      have k5 : zL g (t + 1) = 12 := by rw [hw.2.2.2.2.1 _ (by omega), K7.2]
      have k7 : t + 1 < zN g := by rw [hw.1]; omega
      have k8 : zN g = t + 4 + 2 * i := by rw [hw.1]; omega
      refine vs_ok 5 ?_
      rw [show ((gRes 87).drop 16).take 5 = [.iload 1, .aload 0, .getfield 7002, .arraylength, .if_icmp .ge 31] from rfl]
      simp only [vs_if_icmp, vs_getfield, vs_arraylength, vs_aload0, vs_iload1, vs_nil, gv_0, gv_1, gv_2, gv_3, pv_0, pv_1, va_rf_s, Nat.reduceDiv, Nat.reduceMod, Nat.reduceAdd, Nat.reduceMul, Int.reduceToNat, true_and, and_true, and_self, cP_eq, cP_ne, cP_lt, cP_ge, cP_gt, cP_le, eL_i, eL_l, eL_r, eL_n, Option.toList_none, Option.toList_some, List.nil_append, List.cons_append, k1, k2, k3, k4, k5, k7, or_true, true_or]
      rw [show Int32.ofNat 12 = iI 12 from rfl, iI_le (by constructor <;> omega) (by constructor <;> omega)]
      refine ⟨fun c => absurd c (by omega), fun _ => ?_⟩
      refine vs_ok 6 ?_
      rw [show ((gRes 87).drop 21).take 6 = [.aload 0, .getfield 7002, .iload 1, .new 6, .dup, .iconst 0] from rfl]
      simp only [vs_iconst, vs_getfield, vs_dupi, vs_dupr, vs_aload0, vs_iload1, vs_nil, gv_0, gv_1, gv_2, gv_3, pv_0, pv_1, va_rf_s, vs_new, Nat.reduceDiv, Nat.reduceMod, Nat.reduceAdd, Nat.reduceMul, Int.reduceToNat, true_and, and_true, and_self, cP_eq, cP_ne, cP_lt, cP_ge, cP_gt, cP_le, eL_i, eL_l, eL_r, eL_n, Option.toList_none, Option.toList_some, List.nil_append, List.cons_append, k1, k2, k3, k4, k5, k7]
      have fo2 : ∀ (n : Nat), t + 1 < n → fOK n [some (.ref t), some (.int (iI i))] [.int (iI i), .ref (t + 1)] = true := fun n c => by
        show (decide (t < n ∨ t = zSC) && (true && true) && (true && (decide (t + 1 < n ∨ t + 1 = zSC) && true))) = true
        rw [decide_eq_true (Or.inl c), decide_eq_true (Or.inl (by omega))]
        rfl
      refine ⟨⟨by decide, by omega, fo2 _ (by omega)⟩, ?_⟩
      have p1 : gw (fun _ => False) 1 5 g (zNew g 6 0 (gN 6)) := gw_new
      have p2 := zNew_K (h := g) (k := 6) (n := 0) (s := gN 6)
      have p3 := zNew_I (h := g) (k := 6) (n := 0) (s := gN 6)
      have p4 := zNew_J (h := g) (k := 6) (n := 0) (s := gN 6)
      rw [k8] at p2 p3 p4 ⊢
      generalize zNew g 6 0 (gN 6) = v1 at *
      have p5 : zN v1 = t + 4 + 2 * i + 1 := by rw [p1.1, k8]
      refine PW.is rfl rfl rfl (le_b rfl) (le_b rfl) ?_
      refine t_Row_init (rc := 200) p2 p5 (by omega) p3 p4 rfl fun v2 w rv => ⟨rfl, Or.inr ?_, ?_⟩
      · show (decide (t < zN v1 ∨ t = zSC) && (true && true) && (decide (t + 4 + 2 * i < zN v1 ∨ t + 4 + 2 * i = zSC) && (true && (decide (t + 1 < zN v1 ∨ t + 1 = zSC) && true)))) = true
        rw [decide_eq_true (Or.inl (by omega)), decide_eq_true (Or.inl (by omega)), decide_eq_true (Or.inl (by omega))]
        rfl
      have q1 : gw (fun q => q = t + 1) (2 * i + 2) (406 * i + 406) g6 v2 := (hw.tr (p1.wk (fun _ _ c => c.elim))).tr (w.wk (fun q _ c => Or.inr (by omega)))
      have q2 : zN v2 = t + 4 + 2 * i + 2 := by rw [w.1, p5]
      have k4' : zK v2 (t + 1) = 17 := by rw [q1.2.2.2.1 _ (by omega), K7.1]
      have k5' : zL v2 (t + 1) = 12 := by rw [q1.2.2.2.2.1 _ (by omega), K7.2]
      have k7' : t + 1 < zN v2 := by omega
      have k9' : t + 4 + 2 * i < zN v2 := by omega
      refine vs_ok 3 ?_
      rw [show ((gRes 87).drop 28).take 3 = [.aastore, .iinc 1 1, .goto 16] from rfl]
      simp only [vs_goto, vs_iinc1n, vs_iinc1i, vs_iinc1r, vs_iinc1l, vs_nil, gv_0, gv_1, gv_2, gv_3, pv_0, pv_1, va_rf_s, vs_aastore, Nat.reduceDiv, Nat.reduceMod, Nat.reduceAdd, Nat.reduceMul, Int.reduceToNat, true_and, and_true, and_self, cP_eq, cP_ne, cP_lt, cP_ge, cP_gt, cP_le, eL_i, eL_l, eL_r, eL_n, Option.toList_none, Option.toList_some, List.nil_append, List.cons_append, k4', k5', k7', rv.1.1, k9', iI_add]
      refine ⟨(inB_iI (by constructor <;> omega)).mpr ⟨by omega, by omega⟩, ?_⟩
      rw [iI_nat (by constructor <;> omega) (by omega), show ((i : Int)).toNat = i by omega]
      refine ih (i + 1) _ (by omega) (q1.tr (gw.of_fr (fr_R (Or.inl rfl)))) fun j hj => ?_
      by_cases c : j = i
      · subst c
        rw [zR_sR, if_pos ⟨rfl, rfl⟩]
        exact ⟨rfl, rv.keep (S := fun q => q = t + 1) (fr_R rfl) (by omega) (by omega)⟩
      · rw [zR_sR, if_neg (fun z => c z.2), w.2.2.2.2.2.2.2 _ (by omega) (by omega), p1.2.2.2.2.2.2.2 _ (by omega) (fun c => c)]
        exact ⟨(hr j (by omega)).1, (((hr j (by omega)).2.gk p1 (fun c => c) (fun c => c)).gk w (by omega) (by omega)).keep (S := fun q => q = t + 1) (fr_R rfl) (by omega) (by omega)⟩
  exact loop 12 0 g6 rfl (gw.of_fr fr.rf) (fun j c => absurd c (Nat.not_lt_zero j))
