/-! Table's constructor -/
theorem inA {h : Hp} {k n : Nat} : (gw (fun _ => False) 1 n h (zNew h k n n)) ∧ zN (zNew h k n n) = zN h + 1 ∧ zK (zNew h k n n) (zN h) = k ∧ zL (zNew h k n n) (zN h) = n ∧ zI (zNew h k n n) (zN h) = (fun _ => 0) ∧ zR (zNew h k n n) (zN h) = (fun _ => none) ∧ zJ (zNew h k n n) (zN h) = (fun _ => 0) := ⟨gw_new, rfl, zNew_K, zNew_L, zNew_I, zNew_R, zNew_J⟩
theorem t_Table_init {d : Nat} {h : Hp} {t : Nat} {Q : Nat → Option Value → Hp → Prop} (h1 : zK h t = 7) (h2 : zN h = t + 1) (h3 : t + 28 ≤ zSC) (hI : zI h t = fun _ => 0)
    (hq : ∀ h', gw (fun q => q = t) 27 4908 h h' → isTb h' t 0 (fun _ => 0) (fun _ => 0) → (∀ i, i < 12 → rowV h' (t + 4 + 2 * i) 200 0 0 0 (fun _ => 0)) → Q 0 none h') : PR (d + 1) m_Table_init [.ref t] h Q := by
  have ht : t < zN h := by omega
  have fo : ∀ n, t < n → fOK n [some (.ref t), none] [.ref t] = true := fun n c => by
    show (decide (t < n ∨ t = zSC) && (true && true) && (decide (t < n ∨ t = zSC) && true)) = true
    rw [decide_eq_true (Or.inl c)]
    rfl
  have n12 : (Int32.ofInt 12).toNatClampNeg = 12 := rfl
  show PW (d + 1) 87 0 [some (.ref t), none] [] h Q
  refine vs_ok 5 ?_
  rw [show ((gRes 87).drop 0).take 5 = [.aload 0, .invokedynamic 4, .aload 0, .iconst 12, .anewarray 17] from rfl]
  simp only [vs_iconst, vs_aload0, vs_nil, gv_0, gv_1, gv_2, gv_3, pv_0, pv_1, va_rf_s, vs_anewarray, vs_abs, vs_max, vs_min, vs_oinit, Nat.reduceDiv, Nat.reduceMod, Nat.reduceAdd, Nat.reduceMul, Int.reduceToNat, true_and, and_true, and_self, cP_eq, cP_ne, cP_lt, cP_ge, cP_gt, cP_le, eL_i, eL_l, eL_r, eL_n, Option.toList_none, Option.toList_some, List.nil_append, List.cons_append, n12]
  refine ⟨le_b rfl, ⟨by decide, by decide, by decide, by omega, fo _ ht⟩, ?_⟩
  obtain ⟨a1, a2, a3, a4, a5, a6, a7⟩ := inA (h := h) (k := 17) (n := 12)
  rw [h2] at a2 a3 a4 a5 a6 a7 ⊢
  generalize zNew h 17 12 12 = g1 at *
  have k1 : zK g1 t = 7 := by rw [a1.2.2.2.1 t ht]; exact h1
  refine vs_ok 4 ?_
  rw [show ((gRes 87).drop 5).take 4 = [.putfield 7002, .aload 0, .iconst 12, .newarray .int] from rfl]
  simp only [vs_iconst, vs_putfield, vs_aload0, vs_nil, gv_0, gv_1, gv_2, gv_3, pv_0, pv_1, va_rf_s, vs_newarray, Nat.reduceDiv, Nat.reduceMod, Nat.reduceAdd, Nat.reduceMul, Int.reduceToNat, true_and, and_true, and_self, cP_eq, cP_ne, cP_lt, cP_ge, cP_gt, cP_le, eL_i, eL_l, eL_r, eL_n, Option.toList_none, Option.toList_some, List.nil_append, List.cons_append, n12]
  have b1 : t + 1 < zN g1 := by omega
  refine ⟨⟨k1, by omega⟩, _, if_pos b1, ?_⟩
  have f2 : fr (fun q => q = t) g1 (zsR g1 t 0 (some (t + 1))) := fr_R rfl
  have e2 : zR (zsR g1 t 0 (some (t + 1))) t 0 = some (t + 1) := by rw [zR_sR, if_pos ⟨rfl, rfl⟩]
  have m2 : zI (zsR g1 t 0 (some (t + 1))) t 3 = zI g1 t 3 := rfl
  generalize zsR g1 t 0 (some (t + 1)) = g2 at *
  have c2 : zN g2 = t + 1 + 1 := by rw [f2.2.2.1, a2]
  rw [c2]
  refine ⟨⟨by decide, by decide, by decide, by omega, fo _ (by omega)⟩, ?_⟩
  obtain ⟨a8, a9, aa, ab, ac, -, -⟩ := inA (h := g2) (k := atk ArrayType.int) (n := 12)
  rw [c2] at a9 aa ab ac
  generalize zNew g2 (atk ArrayType.int) 12 12 = g3 at *
  have k3 : zK g3 t = 7 := by rw [a8.2.2.2.1 t (by omega), f2.1]; exact k1
  refine vs_ok 4 ?_
  rw [show ((gRes 87).drop 9).take 4 = [.putfield 7012, .aload 0, .iconst 12, .newarray .int] from rfl]
  simp only [vs_iconst, vs_putfield, vs_aload0, vs_nil, gv_0, gv_1, gv_2, gv_3, pv_0, pv_1, va_rf_s, vs_newarray, Nat.reduceDiv, Nat.reduceMod, Nat.reduceAdd, Nat.reduceMul, Int.reduceToNat, true_and, and_true, and_self, cP_eq, cP_ne, cP_lt, cP_ge, cP_gt, cP_le, eL_i, eL_l, eL_r, eL_n, Option.toList_none, Option.toList_some, List.nil_append, List.cons_append, n12]
  have b3 : t + 1 + 1 < zN g3 := by omega
  refine ⟨⟨k3, by omega⟩, _, if_pos b3, ?_⟩
  have f4 : fr (fun q => q = t) g3 (zsR g3 t 1 (some (t + 1 + 1))) := fr_R rfl
  have e4 : zR (zsR g3 t 1 (some (t + 1 + 1))) t 1 = some (t + 2) := by rw [zR_sR, if_pos ⟨rfl, rfl⟩]
  have d4 : zR (zsR g3 t 1 (some (t + 1 + 1))) t 0 = some (t + 1) := by
    rw [zR_sR, if_neg (by simp), a8.2.2.2.2.2.2.2 t (by omega) (fun c => c), e2]
  have m4 : zI (zsR g3 t 1 (some (t + 1 + 1))) t 3 = zI g3 t 3 := rfl
  generalize zsR g3 t 1 (some (t + 1 + 1)) = g4 at *
  have c4 : zN g4 = t + 1 + 1 + 1 := by rw [f4.2.2.1, a9]
  rw [c4]
  refine ⟨⟨by decide, by decide, by decide, by omega, fo _ (by omega)⟩, ?_⟩
  obtain ⟨ad, ae, af, ag, ah, -, -⟩ := inA (h := g4) (k := atk ArrayType.int) (n := 12)
  rw [c4] at ae af ag ah
  generalize zNew g4 (atk ArrayType.int) 12 12 = g5 at *
  have k5 : zK g5 t = 7 := by rw [ad.2.2.2.1 t (by omega), f4.1]; exact k3
  refine vs_ok 3 ?_
  rw [show ((gRes 87).drop 13).take 3 = [.putfield 7022, .iconst 0, .istore 1] from rfl]
  simp only [vs_iconst, vs_putfield, vs_istore1n, vs_istore1i, vs_istore1r, vs_istore1l, vs_nil, gv_0, gv_1, gv_2, gv_3, pv_0, pv_1, va_rf_s, Nat.reduceDiv, Nat.reduceMod, Nat.reduceAdd, Nat.reduceMul, Int.reduceToNat, true_and, and_true, and_self, cP_eq, cP_ne, cP_lt, cP_ge, cP_gt, cP_le, eL_i, eL_l, eL_r, eL_n, Option.toList_none, Option.toList_some, List.nil_append, List.cons_append]
  have b5 : t + 1 + 1 + 1 < zN g5 := by omega
  refine ⟨⟨k5, by omega⟩, _, if_pos b5, ?_⟩
  trace_state
  sorry
