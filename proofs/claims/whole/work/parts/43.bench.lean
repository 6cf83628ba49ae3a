/-! Bench's state -/
abbrev RowVal := Int × Int × Int × (Int → Int)
def rowP (h : Hp) (r rc : Nat) (v : RowVal) : Prop := rowV h r rc v.1 v.2.1 v.2.2.1 v.2.2.2
def bnO (b o : Nat) : Prop := o = b + 2 ∨ o = b + 4 ∨ (b + 8 ≤ o ∧ o < b + 56 ∧ (o - b) % 2 = 0)
/-- b's own cells: height ht, tooMuch tm; R: where its rows (0..23), spare (24) and gathered (25) lie -/
def bnC (h : Hp) (b : Nat) (ht : Int) (tm : Bool) (R : Nat → Nat) : Prop := zK h b = 0 ∧ b + 55 < zN h ∧ zI h b 4 = iI ht ∧ zI h b 5 = (if tm then 1 else 0) ∧ (0 ≤ ht ∧ ht ≤ 24) ∧ zR h b 0 = some (b + 1) ∧ zK h (b + 1) = 17 ∧ zL h (b + 1) = 24 ∧ (∀ i, i < 24 → zR h (b + 1) i = some (R i)) ∧ zR h b 1 = some (R 24) ∧ zR h b 2 = some (R 25) ∧ zR h b 3 = some (b + 6) ∧ (∀ i, i < 26 → bnO b (R i)) ∧ ∀ i j, i < 26 → j < 26 → R i = R j → i = j
def bnV (h : Hp) (R : Nat → Nat) (V : Nat → RowVal) : Prop := ∀ i, i < 26 → rowP h (R i) 200 (V i)
def slF (ht k : Int) : Int := if 0 ≤ ht - 1 - k ∧ ht - 1 - k < 24 then ht - 1 - k else 0
theorem t_slot {d : Nat} {h : Hp} {b : Nat} {ht k : Int} {tm : Bool} {R : Nat → Nat} {Q : Nat → Option Value → Hp → Prop} (hb : bnC h b ht tm R) (hk : 0 ≤ k ∧ k ≤ 100) (hq : Q 0 (some (.int (iI (slF ht k)))) h) : PR d 2 [.ref b, .int (iI k)] h Q := by
  obtain ⟨h1, h2, h3, -, h5, h6, h7, h8, -⟩ := hb
  have h2' : b < zN h := by omega
  have h2a : b + 1 < zN h := by omega
  have one : (Int32.ofInt 1) = iI 1 := rfl
  show PW d 2 0 [some (.ref b), some (.int (iI k)), none] [] h Q
  refine vs_ok 9 ?_
  rw [show ((gRes 2).drop 0).take 9 = [.aload 0, .getfield 40, .iconst 1, .isub, .iload 1, .isub, .istore 2, .iload 2, .ifCond .lt 14] from rfl]
  simp only [vs_isub, vs_iconst, vs_ifCond, vs_getfield, vs_aload0, vs_iload1, vs_iload2, vs_istore2n, vs_istore2i, vs_istore2r, vs_istore2l, vs_nil, gv_0, gv_1, gv_2, gv_3, pv_0, pv_1, va_rf_s, Nat.reduceDiv, Nat.reduceMod, Nat.reduceAdd, Nat.reduceMul, Int.reduceToNat, true_and, and_true, and_self, cP_eq, cP_ne, cP_lt, cP_ge, cP_gt, cP_le, eL_i, eL_l, eL_r, eL_n, Option.toList_none, Option.toList_some, List.nil_append, List.cons_append, h1, h2', h3, one, iI_sub]
  rw [zt0 (by constructor <;> omega)]
  have no : ¬ (0 ≤ ht - 1 - k ∧ ht - 1 - k < 24) → PW d 2 14 [some (.ref b), some (.int (iI k)), some (.int (iI (ht - 1 - k)))] [] h Q := fun c => by
    refine vs_ok 2 ?_
    rw [show ((gRes 2).drop 14).take 2 = [.iconst 0, .goto 17] from rfl]
    simp only [vs_iconst, vs_goto, vs_nil, gv_0, gv_1, gv_2, gv_3, pv_0, pv_1, va_rf_s, Nat.reduceDiv, Nat.reduceMod, Nat.reduceAdd, Nat.reduceMul, Int.reduceToNat, true_and, and_true, and_self, cP_eq, cP_ne, cP_lt, cP_ge, cP_gt, cP_le, eL_i, eL_l, eL_r, eL_n, Option.toList_none, Option.toList_some, List.nil_append, List.cons_append]
    refine vs_ok 1 ?_
    rw [show ((gRes 2).drop 17).take 1 = [.ireturn] from rfl]
    simp only [vs_ireturn, vs_nil, gv_0, gv_1, gv_2, gv_3, pv_0, pv_1, va_rf_s, Nat.reduceDiv, Nat.reduceMod, Nat.reduceAdd, Nat.reduceMul, Int.reduceToNat, true_and, and_true, and_self, cP_eq, cP_ne, cP_lt, cP_ge, cP_gt, cP_le, eL_i, eL_l, eL_r, eL_n, Option.toList_none, Option.toList_some, List.nil_append, List.cons_append]
    unfold slF at hq
    rw [if_neg c] at hq
    exact ⟨Or.inl (by decide), hq⟩
  refine ⟨fun c => no (by omega), fun c => ?_⟩
  refine vs_ok 5 ?_
  rw [show ((gRes 2).drop 9).take 5 = [.iload 2, .aload 0, .getfield 2, .arraylength, .if_icmp .lt 16] from rfl]
  simp only [vs_if_icmp, vs_getfield, vs_arraylength, vs_aload0, vs_iload2, vs_nil, gv_0, gv_1, gv_2, gv_3, pv_0, pv_1, va_rf_s, Nat.reduceDiv, Nat.reduceMod, Nat.reduceAdd, Nat.reduceMul, Int.reduceToNat, true_and, and_true, and_self, cP_eq, cP_ne, cP_lt, cP_ge, cP_gt, cP_le, eL_i, eL_l, eL_r, eL_n, Option.toList_none, Option.toList_some, List.nil_append, List.cons_append, h1, h2', h6, h7, h8, h2a, or_true, true_or]
  rw [show Int32.ofNat 24 = iI 24 from rfl, iI_lt (by constructor <;> omega) (by constructor <;> omega)]
  refine ⟨fun c2 => ?_, fun c2 => no (by omega)⟩
  refine vs_ok 2 ?_
  rw [show ((gRes 2).drop 16).take 2 = [.iload 2, .ireturn] from rfl]
  simp only [vs_ireturn, vs_iload2, vs_nil, gv_0, gv_1, gv_2, gv_3, pv_0, pv_1, va_rf_s, Nat.reduceDiv, Nat.reduceMod, Nat.reduceAdd, Nat.reduceMul, Int.reduceToNat, true_and, and_true, and_self, cP_eq, cP_ne, cP_lt, cP_ge, cP_gt, cP_le, eL_i, eL_l, eL_r, eL_n, Option.toList_none, Option.toList_some, List.nil_append, List.cons_append]
  unfold slF at hq
  rw [if_pos ⟨by omega, by omega⟩] at hq
  exact ⟨Or.inl (by decide), hq⟩
theorem slF_b (ht k : Int) : 0 ≤ slF ht k ∧ slF ht k < 24 := by
  unfold slF
  split <;> omega
theorem t_topRow {d : Nat} {h : Hp} {b : Nat} {ht : Int} {tm : Bool} {R : Nat → Nat} {Q : Nat → Option Value → Hp → Prop} (hb : bnC h b ht tm R) (hq : Q 0 (some (.ref (R (slF ht 0).toNat))) h) : PR (d + 1) 3 [.ref b] h Q := by
  have hb' := hb
  obtain ⟨h1, h2, -, -, h5, h6, h7, h8, h9, -⟩ := hb'
  have h2' : b < zN h := by omega
  have h2a : b + 1 < zN h := by omega
  have sb := slF_b ht 0
  show PW (d + 1) 3 0 [some (.ref b)] [] h Q
  refine vs_ok 4 ?_
  rw [show ((gRes 3).drop 0).take 4 = [.aload 0, .getfield 2, .aload 0, .iconst 0] from rfl]
  simp only [vs_iconst, vs_getfield, vs_aload0, vs_nil, gv_0, gv_1, gv_2, gv_3, pv_0, pv_1, va_rf_s, Nat.reduceDiv, Nat.reduceMod, Nat.reduceAdd, Nat.reduceMul, Int.reduceToNat, true_and, and_true, and_self, cP_eq, cP_ne, cP_lt, cP_ge, cP_gt, cP_le, eL_i, eL_l, eL_r, eL_n, Option.toList_none, Option.toList_some, List.nil_append, List.cons_append, h1, h2', h6]
  refine PW.iv rfl rfl rfl h1 h2' (le_b rfl) (le_b rfl) ?_
  refine t_slot (k := 0) hb ⟨by omega, by omega⟩ ⟨rfl, ⟨rfl, rfl⟩, ?_⟩
  refine vs_ok 1 ?_
  rw [show ((gRes 3).drop 5).take 1 = [.aaload] from rfl]
  simp only [vs_aaload, vs_nil, gv_0, gv_1, gv_2, gv_3, pv_0, pv_1, va_rf_s, Nat.reduceDiv, Nat.reduceMod, Nat.reduceAdd, Nat.reduceMul, Int.reduceToNat, true_and, and_true, and_self, cP_eq, cP_ne, cP_lt, cP_ge, cP_gt, cP_le, eL_i, eL_l, eL_r, eL_n, Option.toList_none, Option.toList_some, List.nil_append, List.cons_append, h7, h8, h2a]
  refine ⟨(inB_iI (by constructor <;> omega)).mpr ⟨sb.1, by omega⟩, ?_⟩
  rw [iI_nat (by constructor <;> omega) sb.1, h9 _ (by omega)]
  refine vs_ok 1 ?_
  rw [show ((gRes 3).drop 6).take 1 = [.areturn] from rfl]
  simp only [vs_areturn, vs_nil, gv_0, gv_1, gv_2, gv_3, pv_0, pv_1, va_rf_s, Nat.reduceDiv, Nat.reduceMod, Nat.reduceAdd, Nat.reduceMul, Int.reduceToNat, true_and, and_true, and_self, cP_eq, cP_ne, cP_lt, cP_ge, cP_gt, cP_le, eL_i, eL_l, eL_r, eL_n, Option.toList_none, Option.toList_some, List.nil_append, List.cons_append]
  exact ⟨by decide, hq⟩
theorem bnC.set {h h' : Hp} {b : Nat} {ht ht' : Int} {tm tm' : Bool} {R : Nat → Nat} (hb : bnC h b ht tm R) (hf : fr (fun q => q = b) h h') (hr : zR h' b = zR h b) (h4 : zI h' b 4 = iI ht') (h5 : zI h' b 5 = if tm' then 1 else 0) (hh : 0 ≤ ht' ∧ ht' ≤ 24) : bnC h' b ht' tm' R := by
  obtain ⟨a1, a2, -, -, -, a6, a7, a8, a9, aa, ab, ac, ad, ae⟩ := hb
  have e := hf.2.2.2.2.2.2.2 (b + 1) (by omega)
  refine ⟨by rw [hf.1, a1], by rw [hf.2.2.1]; exact a2, h4, h5, hh, by rw [hr, a6], by rw [hf.1, a7], by rw [hf.2.1, a8], fun i hi => by rw [e, a9 i hi], by rw [hr, aa], by rw [hr, ab], by rw [hr, ac], ad, ae⟩
theorem t_bstart {d : Nat} {h : Hp} {b : Nat} {ht : Int} {tm : Bool} {R : Nat → Nat} {Q : Nat → Option Value → Hp → Prop} (hb : bnC h b ht tm R) (hq : ∀ h', fr (fun q => q = b) h h' → bnC h' b 0 false R → Q 0 none h') : PR d 1 [.ref b] h Q := by
  have h1 := hb.1
  have h2 : b < zN h := by have := hb.2.1; omega
  show PW d 1 0 [some (.ref b)] [] h Q
  refine vs_ok 3 ?_
  rw [show ((gRes 1).drop 0).take 3 = [.aload 0, .iconst 0, .putfield 40] from rfl]
  simp only [vs_iconst, vs_putfield, vs_aload0, vs_nil, gv_0, gv_1, gv_2, gv_3, pv_0, pv_1, va_rf_s, Nat.reduceDiv, Nat.reduceMod, Nat.reduceAdd, Nat.reduceMul, Int.reduceToNat, true_and, and_true, and_self, cP_eq, cP_ne, cP_lt, cP_ge, cP_gt, cP_le, eL_i, eL_l, eL_r, eL_n, Option.toList_none, Option.toList_some, List.nil_append, List.cons_append, h1, h2]
  refine ⟨_, rfl, ?_⟩
  refine vs_ok 4 ?_
  rw [show ((gRes 1).drop 3).take 4 = [.aload 0, .iconst 0, .putfield 53, .return_] from rfl]
  simp only [vs_iconst, vs_putfield, vs_return_, vs_aload0, vs_nil, gv_0, gv_1, gv_2, gv_3, pv_0, pv_1, va_rf_s, Nat.reduceDiv, Nat.reduceMod, Nat.reduceAdd, Nat.reduceMul, Int.reduceToNat, true_and, and_true, and_self, cP_eq, cP_ne, cP_lt, cP_ge, cP_gt, cP_le, eL_i, eL_l, eL_r, eL_n, Option.toList_none, Option.toList_some, List.nil_append, List.cons_append, h1, h2]
  have f : fr (fun q => q = b) h (zsI (zsI h b 4 (Int32.ofInt 0)) b 5 (Int32.ofInt 0)) := (fr_I (S := fun q => q = b) rfl).tr (fr_I (S := fun q => q = b) rfl)
  refine ⟨⟨h1, h2⟩, _, rfl, by decide, hq _ f (hb.set f rfl ?_ ?_ ⟨by omega, by omega⟩)⟩
  · rw [zI_sI, if_neg (by simp), zI_sI, if_pos ⟨rfl, rfl⟩]
  · rw [zI_sI, if_pos ⟨rfl, rfl⟩]
    rfl
