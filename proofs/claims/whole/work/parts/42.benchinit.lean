/-! Bench's constructor -/
theorem t_Bench_init {d : Nat} {h : Hp} {b : Nat} {Q : Nat → Option Value → Hp → Prop} (h1 : zK h b = 0) (h2 : zN h = b + 1) (h3 : b + 56 ≤ zSC)
    (hq : ∀ h', gw (fun q => q = b) 55 10986 h h' → zI h' b = zI h b → zR h' b 0 = some (b + 1) → zR h' b 1 = some (b + 2) → zR h' b 2 = some (b + 4) → zR h' b 3 = some (b + 6) → zK h' (b + 1) = 17 → zL h' (b + 1) = 24 → (∀ i, i < 24 → zR h' (b + 1) i = some (b + 8 + 2 * i) ∧ rowV h' (b + 8 + 2 * i) 200 0 0 0 (fun _ => 0)) → rowV h' (b + 2) 200 0 0 0 (fun _ => 0) → rowV h' (b + 4) 200 0 0 0 (fun _ => 0) → rowV h' (b + 6) 200 0 0 1 (fun m => if m = 0 then 1 else 0) → Q 0 none h') : PR (d + 3) m_Bench_init [.ref b] h Q := by
  have hb : b < zN h := by omega
  have fo : ∀ n, b < n → fOK n [some (.ref b), none] [.ref b] = true := fun n c => by
    show (decide (b < n ∨ b = zSC) && (true && true) && (decide (b < n ∨ b = zSC) && true)) = true
    rw [decide_eq_true (Or.inl c)]
    rfl
  have n24 : (Int32.ofInt 24).toNatClampNeg = 24 := rfl
  show PW (d + 3) 0 0 [some (.ref b), none] [] h Q
  refine vs_ok 5 ?_
  rw [show ((gRes 0).drop 0).take 5 = [.aload 0, .invokedynamic 4, .aload 0, .iconst 24, .anewarray 17] from rfl]
  simp only [vs_iconst, vs_aload0, vs_nil, gv_0, gv_1, gv_2, gv_3, pv_0, pv_1, va_rf_s, vs_anewarray, vs_abs, vs_max, vs_min, vs_oinit, Nat.reduceDiv, Nat.reduceMod, Nat.reduceAdd, Nat.reduceMul, Int.reduceToNat, true_and, and_true, and_self, cP_eq, cP_ne, cP_lt, cP_ge, cP_gt, cP_le, eL_i, eL_l, eL_r, eL_n, Option.toList_none, Option.toList_some, List.nil_append, List.cons_append, n24]
  refine ⟨le_b rfl, ⟨by decide, by decide, by decide, by omega, fo _ hb⟩, ?_⟩
  obtain ⟨a1, a2, a3, a4, a5, a6, a7⟩ := inA (h := h) (k := 17) (n := 24)
  rw [h2] at a2 a3 a4 a5 a6 a7 ⊢
  generalize zNew h 17 24 24 = g1 at *
  have k1 : zK g1 b = 0 := by rw [a1.2.2.2.1 b hb]; exact h1
  refine vs_ok 1 ?_
  rw [show ((gRes 0).drop 5).take 1 = [.putfield 2] from rfl]
  simp only [vs_putfield, vs_nil, gv_0, gv_1, gv_2, gv_3, pv_0, pv_1, va_rf_s, Nat.reduceDiv, Nat.reduceMod, Nat.reduceAdd, Nat.reduceMul, Int.reduceToNat, true_and, and_true, and_self, cP_eq, cP_ne, cP_lt, cP_ge, cP_gt, cP_le, eL_i, eL_l, eL_r, eL_n, Option.toList_none, Option.toList_some, List.nil_append, List.cons_append]
  have b1 : b + 1 < zN g1 := by omega
  refine ⟨⟨k1, by omega⟩, _, if_pos b1, ?_⟩
  have f2 : fr (fun q => q = b) g1 (zsR g1 b 0 (some (b + 1))) := fr_R rfl
  have e2 : zR (zsR g1 b 0 (some (b + 1))) b 0 = some (b + 1) := by rw [zR_sR, if_pos ⟨rfl, rfl⟩]
  have m2 : zI (zsR g1 b 0 (some (b + 1))) b = zI g1 b := rfl
  generalize zsR g1 b 0 (some (b + 1)) = g2 at *
  have c2 : zN g2 = b + 2 := by rw [f2.2.2.1, a2]
  have kg : zK g2 b = 0 := by rw [f2.1]; exact k1
  refine PW.nrow (rc := 200) rfl rfl rfl rfl rfl rfl kg (by omega) (by omega) rfl (fun _ => rfl) fun g3 w3 v3 z3 r3 => ?_
  have c3 : zN g3 = b + 4 := by rw [w3.1, c2]
  refine PW.nrow (rc := 200) rfl rfl rfl rfl rfl rfl (by rw [w3.2.2.2.1 b (by omega), kg]) (by omega) (by omega) rfl (fun _ => rfl) fun g4 w4 v4 z4 r4 => ?_
  have c4 : zN g4 = b + 6 := by rw [w4.1, c3]
  refine PW.nrow (rc := 200) rfl rfl rfl rfl rfl rfl (by rw [w4.2.2.2.1 b (by omega), w3.2.2.2.1 b (by omega), kg]) (by omega) (by omega) rfl (fun _ => rfl) fun g5 w5 v5 z5 r5 => ?_
  have c5 : zN g5 = b + 8 := by rw [w5.1, c4]
  rw [c2] at v3 r3
  rw [c3] at v4 r4
  rw [c4] at v5 r5
  have kb : zK g5 b = 0 := by rw [w5.2.2.2.1 b (by omega), w4.2.2.2.1 b (by omega), w3.2.2.2.1 b (by omega), kg]
  have r0 : zR g5 b 0 = some (b + 1) := by rw [r5, r4, r3, e2]; rfl
  have r1 : zR g5 b 1 = some (b + 2) := by rw [r5, r4, r3]; rfl
  have r2 : zR g5 b 2 = some (b + 4) := by rw [r5, r4]; rfl
  have r3' : zR g5 b 3 = some (b + 6) := by rw [r5]; rfl
  have K7 : zK g5 (b + 1) = 17 ∧ zL g5 (b + 1) = 24 := by
    rw [w5.2.2.2.1 _ (by omega), w4.2.2.2.1 _ (by omega), w3.2.2.2.1 _ (by omega), w5.2.2.2.2.1 _ (by omega), w4.2.2.2.2.1 _ (by omega), w3.2.2.2.2.1 _ (by omega), f2.1, f2.2.1]
    exact ⟨a3, a4⟩
  have W : gw (fun q => q = b) 7 (24 + 3 * 406) h g5 := ((((a1.wk (T := fun q => q = b) (fun _ _ c => c.elim)).tr ((gw.of_fr f2).wk (fun _ _ c => Or.inl c))).tr (w3.wk fun _ _ c => Or.inl c)).tr (w4.wk fun _ _ c => Or.inl c)).tr (w5.wk fun _ _ c => Or.inl c)
  have ZI : zI g5 b = zI h b := by rw [z5, z4, z3, m2, a1.2.2.2.2.2.1 b hb (fun c => c)]
  have u3 : rowV g5 (b + 2) 200 0 0 0 (fun _ => 0) := (v3.gk w4 (by omega) (by omega)).gk w5 (by omega) (by omega)
  have u4 : rowV g5 (b + 4) 200 0 0 0 (fun _ => 0) := v4.gk w5 (by omega) (by omega)
  clear a1 a2 a3 a4 a5 a6 a7 k1 b1 f2 e2 m2 c2 w3 v3 z3 r3 c3 w4 v4 z4 r4 c4 w5 z5 r5 kg
  refine vs_ok 2 ?_
  rw [show ((gRes 0).drop 24).take 2 = [.iconst 0, .istore 1] from rfl]
  simp only [vs_iconst, vs_istore1n, vs_istore1i, vs_istore1r, vs_istore1l, vs_nil, gv_0, gv_1, gv_2, gv_3, pv_0, pv_1, va_rf_s, Nat.reduceDiv, Nat.reduceMod, Nat.reduceAdd, Nat.reduceMul, Int.reduceToNat, true_and, and_true, and_self, cP_eq, cP_ne, cP_lt, cP_ge, cP_gt, cP_le, eL_i, eL_l, eL_r, eL_n, Option.toList_none, Option.toList_some, List.nil_append, List.cons_append]
  have loop : ∀ (k i : Nat) (g : Hp), k + i = 24 → gw (fun q => q = b + 1) (2 * i) (406 * i) g5 g → (∀ j, j < i → zR g (b + 1) j = some (b + 8 + 2 * j) ∧ rowV g (b + 8 + 2 * j) 200 0 0 0 (fun _ => 0)) → PW (d + 3) 0 26 [some (.ref b), some (.int (iI i))] [] g Q := by
    intro k
    induction k with
    | zero =>
      intro i g hk hw hr
      have hi : i = 24 := by omega
      subst hi
      have k1 : zK g b = 0 := by rw [hw.2.2.2.1 b (by omega), kb]
      have k2 : b < zN g := by rw [hw.1]; omega
      have k3 : zR g b 0 = some (b + 1) := by rw [hw.2.2.2.2.2.2.2 b (by omega) (by omega), r0]
      have k3' : zR g b 3 = some (b + 6) := by rw [hw.2.2.2.2.2.2.2 b (by omega) (by omega), r3']
      have k4 : zK g (b + 1) = 17 := by rw [hw.2.2.2.1 _ (by omega), K7.1]
      have k5 : zL g (b + 1) = 24 := by rw [hw.2.2.2.2.1 _ (by omega), K7.2]
      have k7 : b + 1 < zN g := by rw [hw.1]; omega
      refine vs_ok 5 ?_
      rw [show ((gRes 0).drop 26).take 5 = [.iload 1, .aload 0, .getfield 2, .arraylength, .if_icmp .ge 41] from rfl]
      simp only [vs_if_icmp, vs_getfield, vs_arraylength, vs_aload0, vs_iload1, vs_nil, gv_0, gv_1, gv_2, gv_3, pv_0, pv_1, va_rf_s, Nat.reduceDiv, Nat.reduceMod, Nat.reduceAdd, Nat.reduceMul, Int.reduceToNat, true_and, and_true, and_self, cP_eq, cP_ne, cP_lt, cP_ge, cP_gt, cP_le, eL_i, eL_l, eL_r, eL_n, Option.toList_none, Option.toList_some, List.nil_append, List.cons_append, k1, k2, k3, k4, k5, k7, or_true, true_or]
      rw [show Int32.ofNat 24 = iI 24 from rfl, iI_le (by constructor <;> omega) (by constructor <;> omega)]
      refine ⟨fun _ => ?_, fun c => absurd c (by omega)⟩
      refine vs_ok 3 ?_
      rw [show ((gRes 0).drop 41).take 3 = [.aload 0, .getfield 32, .iconst 0] from rfl]
      simp only [vs_iconst, vs_getfield, vs_aload0, vs_nil, gv_0, gv_1, gv_2, gv_3, pv_0, pv_1, va_rf_s, Nat.reduceDiv, Nat.reduceMod, Nat.reduceAdd, Nat.reduceMul, Int.reduceToNat, true_and, and_true, and_self, cP_eq, cP_ne, cP_lt, cP_ge, cP_gt, cP_le, eL_i, eL_l, eL_r, eL_n, Option.toList_none, Option.toList_some, List.nil_append, List.cons_append, k1, k2, k3']
      have v6 := v5.gk hw (by omega) (by omega)
      refine PW.iv rfl rfl rfl v6.1.1 v6.1.2.1 (le_b rfl) (le_b rfl) ?_
      refine t_takeNumber (n := 0) v6 ⟨by omega, by omega⟩ fun g' f' v' => ⟨rfl, ⟨f'.2.2.1, rfl⟩, ?_⟩
      refine vs_ok 1 ?_
      rw [show ((gRes 0).drop 45).take 1 = [.return_] from rfl]
      simp only [vs_return_, vs_nil, gv_0, gv_1, gv_2, gv_3, pv_0, pv_1, va_rf_s, Nat.reduceDiv, Nat.reduceMod, Nat.reduceAdd, Nat.reduceMul, Int.reduceToNat, true_and, and_true, and_self, cP_eq, cP_ne, cP_lt, cP_ge, cP_gt, cP_le, eL_i, eL_l, eL_r, eL_n, Option.toList_none, Option.toList_some, List.nil_append, List.cons_append]
      have rs : ∀ q, (q = b ∨ q = b + 1 ∨ q = b + 2 ∨ q = b + 3 ∨ q = b + 4 ∨ q = b + 5 ∨ b + 8 ≤ q) → ¬ rS (b + 6) q := fun q hq c => by
        rcases c with c | c <;> omega
      have f5 := f'.2.2.2.2.2.1
      have f7 := f'.2.2.2.2.2.2.2
      refine ⟨by decide, hq g' ((W.tr (hw.wk fun q _ c => Or.inr (by omega))).tr ((gw.of_fr f').wk fun q _ c => Or.inr (by rcases c with c | c <;> omega))) ?_ ?_ ?_ ?_ ?_ ?_ ?_ (fun j hj => ⟨?_, ?_⟩) ?_ ?_ v'⟩
      · rw [f5 b (rs b (by omega)), hw.2.2.2.2.2.1 b (by omega) (by omega), ZI]
      · rw [f7 b (rs b (by omega)), k3]
      · rw [f7 b (rs b (by omega)), hw.2.2.2.2.2.2.2 b (by omega) (by omega), r1]
      · rw [f7 b (rs b (by omega)), hw.2.2.2.2.2.2.2 b (by omega) (by omega), r2]
      · rw [f7 b (rs b (by omega)), k3']
      · rw [f'.1, k4]
      · rw [f'.2.1, k5]
      · rw [f7 (b + 1) (rs _ (by omega)), (hr j hj).1]
      · exact (hr j hj).2.keep f' (rs _ (by omega)) (rs _ (by omega))
      · exact (u3.gk hw (by omega) (by omega)).keep f' (rs _ (by omega)) (rs _ (by omega))
      · exact (u4.gk hw (by omega) (by omega)).keep f' (rs _ (by omega)) (rs _ (by omega))
    | succ k ih =>
      intro i g hk hw hr
      have k1 : zK g b = 0 := by rw [hw.2.2.2.1 b (by omega), kb]
      have k2 : b < zN g := by rw [hw.1]; omega
      have k3 : zR g b 0 = some (b + 1) := by rw [hw.2.2.2.2.2.2.2 b (by omega) (by omega), r0]
      have k4 : zK g (b + 1) = 17 := by rw [hw.2.2.2.1 _ (by omega), K7.1]
      have k5 : zL g (b + 1) = 24 := by rw [hw.2.2.2.2.1 _ (by omega), K7.2]
      have k7 : b + 1 < zN g := by rw [hw.1]; omega
      have k8 : zN g = b + 8 + 2 * i := by rw [hw.1]; omega
      refine vs_ok 5 ?_
      rw [show ((gRes 0).drop 26).take 5 = [.iload 1, .aload 0, .getfield 2, .arraylength, .if_icmp .ge 41] from rfl]
      simp only [vs_if_icmp, vs_getfield, vs_arraylength, vs_aload0, vs_iload1, vs_nil, gv_0, gv_1, gv_2, gv_3, pv_0, pv_1, va_rf_s, Nat.reduceDiv, Nat.reduceMod, Nat.reduceAdd, Nat.reduceMul, Int.reduceToNat, true_and, and_true, and_self, cP_eq, cP_ne, cP_lt, cP_ge, cP_gt, cP_le, eL_i, eL_l, eL_r, eL_n, Option.toList_none, Option.toList_some, List.nil_append, List.cons_append, k1, k2, k3, k4, k5, k7, or_true, true_or]
      rw [show Int32.ofNat 24 = iI 24 from rfl, iI_le (by constructor <;> omega) (by constructor <;> omega)]
      refine ⟨fun c => absurd c (by omega), fun _ => ?_⟩
      refine vs_ok 6 ?_
      rw [show ((gRes 0).drop 31).take 6 = [.aload 0, .getfield 2, .iload 1, .new 6, .dup, .iconst 0] from rfl]
      simp only [vs_iconst, vs_getfield, vs_dupi, vs_dupr, vs_aload0, vs_iload1, vs_nil, gv_0, gv_1, gv_2, gv_3, pv_0, pv_1, va_rf_s, vs_new, Nat.reduceDiv, Nat.reduceMod, Nat.reduceAdd, Nat.reduceMul, Int.reduceToNat, true_and, and_true, and_self, cP_eq, cP_ne, cP_lt, cP_ge, cP_gt, cP_le, eL_i, eL_l, eL_r, eL_n, Option.toList_none, Option.toList_some, List.nil_append, List.cons_append, k1, k2, k3, k4, k5, k7]
      have fo2 : ∀ (n : Nat), b + 1 < n → fOK n [some (.ref b), some (.int (iI i))] [.int (iI i), .ref (b + 1)] = true := fun n c => by
        show (decide (b < n ∨ b = zSC) && (true && true) && (true && (decide (b + 1 < n ∨ b + 1 = zSC) && true))) = true
        rw [decide_eq_true (Or.inl c), decide_eq_true (Or.inl (by omega))]
        rfl
      refine ⟨⟨by decide, by omega, fo2 _ (by omega)⟩, ?_⟩
      have p1 : gw (fun _ => False) 1 5 g (zNew g 6 0 (gN 6)) := gw_new
      have p2 := zNew_K (h := g) (k := 6) (n := 0) (s := gN 6)
      have p3 := zNew_I (h := g) (k := 6) (n := 0) (s := gN 6)
      have p4 := zNew_J (h := g) (k := 6) (n := 0) (s := gN 6)
      rw [k8] at p2 p3 p4 ⊢
      generalize zNew g 6 0 (gN 6) = v1 at *
      have p5 : zN v1 = b + 8 + 2 * i + 1 := by rw [p1.1, k8]
      refine PW.is rfl rfl rfl (le_b rfl) (le_b rfl) ?_
      refine t_Row_init (rc := 200) p2 p5 (by omega) p3 p4 rfl fun v2 w rv => ⟨rfl, Or.inr ?_, ?_⟩
      · show (decide (b < zN v1 ∨ b = zSC) && (true && true) && (decide (b + 8 + 2 * i < zN v1 ∨ b + 8 + 2 * i = zSC) && (true && (decide (b + 1 < zN v1 ∨ b + 1 = zSC) && true)))) = true
        rw [decide_eq_true (Or.inl (by omega)), decide_eq_true (Or.inl (by omega)), decide_eq_true (Or.inl (by omega))]
        rfl
      have q1 : gw (fun q => q = b + 1) (2 * i + 2) (406 * i + 406) g5 v2 := (hw.tr (p1.wk (fun _ _ c => c.elim))).tr (w.wk (fun q _ c => Or.inr (by omega)))
      have q2 : zN v2 = b + 8 + 2 * i + 2 := by rw [w.1, p5]
      have k4' : zK v2 (b + 1) = 17 := by rw [q1.2.2.2.1 _ (by omega), K7.1]
      have k5' : zL v2 (b + 1) = 24 := by rw [q1.2.2.2.2.1 _ (by omega), K7.2]
      have k7' : b + 1 < zN v2 := by omega
      have k9' : b + 8 + 2 * i < zN v2 := by omega
      refine vs_ok 3 ?_
      rw [show ((gRes 0).drop 38).take 3 = [.aastore, .iinc 1 1, .goto 26] from rfl]
      simp only [vs_goto, vs_iinc1n, vs_iinc1i, vs_iinc1r, vs_iinc1l, vs_nil, gv_0, gv_1, gv_2, gv_3, pv_0, pv_1, va_rf_s, vs_aastore, Nat.reduceDiv, Nat.reduceMod, Nat.reduceAdd, Nat.reduceMul, Int.reduceToNat, true_and, and_true, and_self, cP_eq, cP_ne, cP_lt, cP_ge, cP_gt, cP_le, eL_i, eL_l, eL_r, eL_n, Option.toList_none, Option.toList_some, List.nil_append, List.cons_append, k4', k5', k7', rv.1.1, k9', iI_add]
      refine ⟨(inB_iI (by constructor <;> omega)).mpr ⟨by omega, by omega⟩, ?_⟩
      rw [iI_nat (by constructor <;> omega) (by omega), show ((i : Int)).toNat = i by omega]
      refine ih (i + 1) _ (by omega) (q1.tr (gw.of_fr (fr_R (Or.inl rfl)))) fun j hj => ?_
      by_cases c : j = i
      · subst c
        rw [zR_sR, if_pos ⟨rfl, rfl⟩]
        exact ⟨rfl, rv.keep (S := fun q => q = b + 1) (fr_R rfl) (by omega) (by omega)⟩
      · rw [zR_sR, if_neg (fun z => c z.2), w.2.2.2.2.2.2.2 _ (by omega) (by omega), p1.2.2.2.2.2.2.2 _ (by omega) (fun c => c)]
        exact ⟨(hr j (by omega)).1, (((hr j (by omega)).2.gk p1 (fun c => c) (fun c => c)).gk w (by omega) (by omega)).keep (S := fun q => q = b + 1) (fr_R rfl) (by omega) (by omega)⟩
  exact loop 24 0 g5 rfl (gw.of_fr fr.rf) (fun j c => absurd c (Nat.not_lt_zero j))
