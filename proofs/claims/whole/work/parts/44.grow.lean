/-! Bench.grow -/
theorem t_grow {d : Nat} {h : Hp} {b : Nat} {ht : Int} {tm : Bool} {R : Nat → Nat} {Q : Nat → Option Value → Hp → Prop} (hb : bnC h b ht tm R) (hq1 : ht < 24 → ∀ h', fr (fun q => q = b) h h' → bnC h' b (ht + 1) tm R → Q 0 (some (.int (if tm then 0 else 1))) h') (hq2 : ¬ ht < 24 → ∀ h', fr (fun q => q = b) h h' → bnC h' b ht true R → Q 0 (some (.int 0)) h') : PR d 4 [.ref b] h Q := by
  have hb' := hb
  obtain ⟨h1, h2, h3, h4, h5, h6, h7, h8, h9, -⟩ := hb'
  have h2' : b < zN h := by omega
  have h2a : b + 1 < zN h := by omega
  show PW d 4 0 [some (.ref b)] [] h Q
  refine vs_ok 6 ?_
  rw [show ((gRes 4).drop 0).take 6 = [.aload 0, .getfield 40, .aload 0, .getfield 2, .arraylength, .if_icmp .lt 11] from rfl]
  simp only [vs_if_icmp, vs_getfield, vs_arraylength, vs_aload0, vs_nil, gv_0, gv_1, gv_2, gv_3, pv_0, pv_1, va_rf_s, Nat.reduceDiv, Nat.reduceMod, Nat.reduceAdd, Nat.reduceMul, Int.reduceToNat, true_and, and_true, and_self, cP_eq, cP_ne, cP_lt, cP_ge, cP_gt, cP_le, eL_i, eL_l, eL_r, eL_n, Option.toList_none, Option.toList_some, List.nil_append, List.cons_append, h1, h2', h3, h6, h7, h8, h2a, or_true, true_or]
  rw [show Int32.ofNat 24 = iI 24 from rfl, iI_lt (by constructor <;> omega) (by constructor <;> omega)]
  refine ⟨fun c => ?_, fun c => ?_⟩
  · refine vs_ok 6 ?_
    rw [show ((gRes 4).drop 11).take 6 = [.aload 0, .dup, .getfield 40, .iconst 1, .iadd, .putfield 40] from rfl]
    simp only [vs_iadd, vs_iconst, vs_getfield, vs_putfield, vs_dupi, vs_dupr, vs_aload0, vs_nil, gv_0, gv_1, gv_2, gv_3, pv_0, pv_1, va_rf_s, Nat.reduceDiv, Nat.reduceMod, Nat.reduceAdd, Nat.reduceMul, Int.reduceToNat, true_and, and_true, and_self, cP_eq, cP_ne, cP_lt, cP_ge, cP_gt, cP_le, eL_i, eL_l, eL_r, eL_n, Option.toList_none, Option.toList_some, List.nil_append, List.cons_append, h1, h2', h3, show Int32.ofInt 1 = iI 1 from rfl, iI_add]
    refine ⟨_, rfl, ?_⟩
    have f : fr (fun q => q = b) h (zsI h b 4 (iI (ht + 1))) := fr_I rfl
    have e5 : zI (zsI h b 4 (iI (ht + 1))) b 5 = if tm then 1 else 0 := by rw [zI_sI, if_neg (by simp), h4]
    have g := hq1 c _ f (hb.set f rfl (by rw [zI_sI, if_pos ⟨rfl, rfl⟩]) e5 ⟨by omega, by omega⟩)
    have g1 : zK (zsI h b 4 (iI (ht + 1))) b = 0 := h1
    have g2 : b < zN (zsI h b 4 (iI (ht + 1))) := h2'
    generalize zsI h b 4 (iI (ht + 1)) = v at *
    refine vs_ok 3 ?_
    rw [show ((gRes 4).drop 17).take 3 = [.aload 0, .getfield 53, .ifCond .ne 22] from rfl]
    simp only [vs_ifCond, vs_getfield, vs_aload0, vs_nil, gv_0, gv_1, gv_2, gv_3, pv_0, pv_1, va_rf_s, Nat.reduceDiv, Nat.reduceMod, Nat.reduceAdd, Nat.reduceMul, Int.reduceToNat, true_and, and_true, and_self, cP_eq, cP_ne, cP_lt, cP_ge, cP_gt, cP_le, eL_i, eL_l, eL_r, eL_n, Option.toList_none, Option.toList_some, List.nil_append, List.cons_append, g1, g2, e5]
    cases tm with
    | true =>
      refine ⟨fun _ => ?_, fun z => (by simp at z)⟩
      refine vs_ok 2 ?_
      rw [show ((gRes 4).drop 22).take 2 = [.iconst 0, .ireturn] from rfl]
      simp only [vs_iconst, vs_ireturn, vs_nil, gv_0, gv_1, gv_2, gv_3, pv_0, pv_1, va_rf_s, Nat.reduceDiv, Nat.reduceMod, Nat.reduceAdd, Nat.reduceMul, Int.reduceToNat, true_and, and_true, and_self, cP_eq, cP_ne, cP_lt, cP_ge, cP_gt, cP_le, eL_i, eL_l, eL_r, eL_n, Option.toList_none, Option.toList_some, List.nil_append, List.cons_append]
      exact ⟨Or.inr ⟨by decide, Or.inl rfl⟩, g⟩
    | false =>
      refine ⟨fun z => (by simp at z), fun _ => ?_⟩
      refine vs_ok 2 ?_
      rw [show ((gRes 4).drop 20).take 2 = [.iconst 1, .goto 23] from rfl]
      simp only [vs_iconst, vs_goto, vs_nil, gv_0, gv_1, gv_2, gv_3, pv_0, pv_1, va_rf_s, Nat.reduceDiv, Nat.reduceMod, Nat.reduceAdd, Nat.reduceMul, Int.reduceToNat, true_and, and_true, and_self, cP_eq, cP_ne, cP_lt, cP_ge, cP_gt, cP_le, eL_i, eL_l, eL_r, eL_n, Option.toList_none, Option.toList_some, List.nil_append, List.cons_append]
      refine vs_ok 1 ?_
      rw [show ((gRes 4).drop 23).take 1 = [.ireturn] from rfl]
      simp only [vs_ireturn, vs_nil, gv_0, gv_1, gv_2, gv_3, pv_0, pv_1, va_rf_s, Nat.reduceDiv, Nat.reduceMod, Nat.reduceAdd, Nat.reduceMul, Int.reduceToNat, true_and, and_true, and_self, cP_eq, cP_ne, cP_lt, cP_ge, cP_gt, cP_le, eL_i, eL_l, eL_r, eL_n, Option.toList_none, Option.toList_some, List.nil_append, List.cons_append]
      exact ⟨Or.inr ⟨by decide, Or.inr rfl⟩, g⟩
  · refine vs_ok 3 ?_
    rw [show ((gRes 4).drop 6).take 3 = [.aload 0, .iconst 1, .putfield 53] from rfl]
    simp only [vs_iconst, vs_putfield, vs_aload0, vs_nil, gv_0, gv_1, gv_2, gv_3, pv_0, pv_1, va_rf_s, Nat.reduceDiv, Nat.reduceMod, Nat.reduceAdd, Nat.reduceMul, Int.reduceToNat, true_and, and_true, and_self, cP_eq, cP_ne, cP_lt, cP_ge, cP_gt, cP_le, eL_i, eL_l, eL_r, eL_n, Option.toList_none, Option.toList_some, List.nil_append, List.cons_append, h1, h2']
    refine ⟨_, rfl, ?_⟩
    refine vs_ok 2 ?_
    rw [show ((gRes 4).drop 9).take 2 = [.iconst 0, .ireturn] from rfl]
    simp only [vs_iconst, vs_ireturn, vs_nil, gv_0, gv_1, gv_2, gv_3, pv_0, pv_1, va_rf_s, Nat.reduceDiv, Nat.reduceMod, Nat.reduceAdd, Nat.reduceMul, Int.reduceToNat, true_and, and_true, and_self, cP_eq, cP_ne, cP_lt, cP_ge, cP_gt, cP_le, eL_i, eL_l, eL_r, eL_n, Option.toList_none, Option.toList_some, List.nil_append, List.cons_append]
    have f : fr (fun q => q = b) h (zsI h b 5 (Int32.ofInt 1)) := fr_I rfl
    exact ⟨Or.inr ⟨by decide, Or.inl rfl⟩, hq2 c _ f (hb.set f rfl (by rw [zI_sI, if_neg (by simp), h3]) (by rw [zI_sI, if_pos ⟨rfl, rfl⟩]; rfl) h5)⟩
theorem t_drop {d : Nat} {h : Hp} {b : Nat} {ht : Int} {tm : Bool} {R : Nat → Nat} {Q : Nat → Option Value → Hp → Prop} (hb : bnC h b ht tm R) (hq : ∀ h', fr (fun q => q = b) h h' → bnC h' b (if 0 < ht then ht - 1 else ht) tm R → Q 0 none h') : PR d 10 [.ref b] h Q := by
  have hb' := hb
  obtain ⟨h1, h2, h3, h4, h5, h6, h7, h8, h9, -⟩ := hb'
  have h2' : b < zN h := by omega
  show PW d 10 0 [some (.ref b)] [] h Q
  refine vs_ok 3 ?_
  rw [show ((gRes 10).drop 0).take 3 = [.aload 0, .getfield 40, .ifCond .le 9] from rfl]
  simp only [vs_ifCond, vs_getfield, vs_aload0, vs_nil, gv_0, gv_1, gv_2, gv_3, pv_0, pv_1, va_rf_s, Nat.reduceDiv, Nat.reduceMod, Nat.reduceAdd, Nat.reduceMul, Int.reduceToNat, true_and, and_true, and_self, cP_eq, cP_ne, cP_lt, cP_ge, cP_gt, cP_le, eL_i, eL_l, eL_r, eL_n, Option.toList_none, Option.toList_some, List.nil_append, List.cons_append, h1, h2', h3]
  rw [zle0 (by constructor <;> omega)]
  refine ⟨fun c => ?_, fun c => ?_⟩
  · refine vs_ok 1 ?_
    rw [show ((gRes 10).drop 9).take 1 = [.return_] from rfl]
    simp only [vs_return_, vs_nil, gv_0, gv_1, gv_2, gv_3, pv_0, pv_1, va_rf_s, Nat.reduceDiv, Nat.reduceMod, Nat.reduceAdd, Nat.reduceMul, Int.reduceToNat, true_and, and_true, and_self, cP_eq, cP_ne, cP_lt, cP_ge, cP_gt, cP_le, eL_i, eL_l, eL_r, eL_n, Option.toList_none, Option.toList_some, List.nil_append, List.cons_append]
    rw [if_neg (by omega)] at hq
    exact ⟨by decide, hq h fr.rf hb⟩
  · refine vs_ok 6 ?_
    rw [show ((gRes 10).drop 3).take 6 = [.aload 0, .dup, .getfield 40, .iconst 1, .isub, .putfield 40] from rfl]
    simp only [vs_isub, vs_iconst, vs_getfield, vs_putfield, vs_dupi, vs_dupr, vs_aload0, vs_nil, gv_0, gv_1, gv_2, gv_3, pv_0, pv_1, va_rf_s, Nat.reduceDiv, Nat.reduceMod, Nat.reduceAdd, Nat.reduceMul, Int.reduceToNat, true_and, and_true, and_self, cP_eq, cP_ne, cP_lt, cP_ge, cP_gt, cP_le, eL_i, eL_l, eL_r, eL_n, Option.toList_none, Option.toList_some, List.nil_append, List.cons_append, h1, h2', h3, show Int32.ofInt 1 = iI 1 from rfl, iI_sub]
    refine ⟨_, rfl, ?_⟩
    have f : fr (fun q => q = b) h (zsI h b 4 (iI (ht - 1))) := fr_I rfl
    refine vs_ok 1 ?_
    rw [show ((gRes 10).drop 9).take 1 = [.return_] from rfl]
    simp only [vs_return_, vs_nil, gv_0, gv_1, gv_2, gv_3, pv_0, pv_1, va_rf_s, Nat.reduceDiv, Nat.reduceMod, Nat.reduceAdd, Nat.reduceMul, Int.reduceToNat, true_and, and_true, and_self, cP_eq, cP_ne, cP_lt, cP_ge, cP_gt, cP_le, eL_i, eL_l, eL_r, eL_n, Option.toList_none, Option.toList_some, List.nil_append, List.cons_append]
    rw [if_pos (by omega)] at hq
    exact ⟨by decide, hq _ f (hb.set f rfl (by rw [zI_sI, if_pos ⟨rfl, rfl⟩]) (by rw [zI_sI, if_neg (by simp), h4]) ⟨by omega, by omega⟩)⟩
