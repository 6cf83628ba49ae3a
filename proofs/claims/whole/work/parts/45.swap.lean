/-! Bench.swapSpare -/
def swi (s q i : Nat) : Nat := if i = s then q else if i = q then s else i
theorem swi_lt {s q i : Nat} (hs : s < 26) (hq : q < 26) (hi : i < 26) : swi s q i < 26 := by
  unfold swi
  split
  · exact hq
  · split <;> assumption
theorem swi_inj {s q i j : Nat} (e : swi s q i = swi s q j) : i = j := by
  unfold swi at e
  repeat' split at e
  all_goals omega
theorem t_swapSpare {d : Nat} {h : Hp} {b s : Nat} {ht : Int} {tm : Bool} {R : Nat → Nat} {V : Nat → RowVal} {Q : Nat → Option Value → Hp → Prop} (hb : bnC h b ht tm R) (hv : bnV h R V) (hs : s < 24)
    (hq : ∀ h', fr (fun q => q = b ∨ q = b + 1) h h' → bnC h' b ht tm (fun i => R (swi s 24 i)) → bnV h' (fun i => R (swi s 24 i)) (fun i => V (swi s 24 i)) → Q 0 none h') : PR d 8 [.ref b, .int (iI s)] h Q := by
  have hb' := hb
  obtain ⟨h1, h2, h3, h4, h5, h6, h7, h8, h9, ha, hc, hd, he, hf⟩ := hb'
  have h2' : b < zN h := by omega
  have h2a : b + 1 < zN h := by omega
  show PW d 8 0 [some (.ref b), some (.int (iI s)), none] [] h Q
  refine vs_ok 2 ?_
  rw [show ((gRes 8).drop 0).take 2 = [.iload 1, .ifCond .lt 21] from rfl]
  simp only [vs_ifCond, vs_iload1, vs_nil, gv_0, gv_1, gv_2, gv_3, pv_0, pv_1, va_rf_s, Nat.reduceDiv, Nat.reduceMod, Nat.reduceAdd, Nat.reduceMul, Int.reduceToNat, true_and, and_true, and_self, cP_eq, cP_ne, cP_lt, cP_ge, cP_gt, cP_le, eL_i, eL_l, eL_r, eL_n, Option.toList_none, Option.toList_some, List.nil_append, List.cons_append]
  rw [zt0 (by constructor <;> omega)]
  refine ⟨fun c => absurd c (by omega), fun _ => ?_⟩
  refine vs_ok 5 ?_
  rw [show ((gRes 8).drop 2).take 5 = [.iload 1, .aload 0, .getfield 2, .arraylength, .if_icmp .ge 21] from rfl]
  simp only [vs_if_icmp, vs_getfield, vs_arraylength, vs_aload0, vs_iload1, vs_nil, gv_0, gv_1, gv_2, gv_3, pv_0, pv_1, va_rf_s, Nat.reduceDiv, Nat.reduceMod, Nat.reduceAdd, Nat.reduceMul, Int.reduceToNat, true_and, and_true, and_self, cP_eq, cP_ne, cP_lt, cP_ge, cP_gt, cP_le, eL_i, eL_l, eL_r, eL_n, Option.toList_none, Option.toList_some, List.nil_append, List.cons_append, h1, h2', h6, h7, h8, h2a, or_true, true_or]
  rw [show Int32.ofNat 24 = iI 24 from rfl, iI_le (by constructor <;> omega) (by constructor <;> omega)]
  refine ⟨fun c => absurd c (by omega), fun _ => ?_⟩
  have r1 : zK h (R 24) = 6 ∧ R 24 < zN h := ⟨(hv 24 (by omega)).1.1, (hv 24 (by omega)).1.2.1⟩
  have r2 : zK h (R s) = 6 ∧ R s < zN h := ⟨(hv s (by omega)).1.1, (hv s (by omega)).1.2.1⟩
  refine vs_ok 4 ?_
  rw [show ((gRes 8).drop 7).take 4 = [.aload 0, .getfield 2, .iload 1, .aaload] from rfl]
  simp only [vs_getfield, vs_aaload, vs_aload0, vs_iload1, vs_nil, gv_0, gv_1, gv_2, gv_3, pv_0, pv_1, va_rf_s, Nat.reduceDiv, Nat.reduceMod, Nat.reduceAdd, Nat.reduceMul, Int.reduceToNat, true_and, and_true, and_self, cP_eq, cP_ne, cP_lt, cP_ge, cP_gt, cP_le, eL_i, eL_l, eL_r, eL_n, Option.toList_none, Option.toList_some, List.nil_append, List.cons_append, h1, h2', h6, h7, h8, h2a]
  refine ⟨(inB_iI (by constructor <;> omega)).mpr ⟨by omega, by omega⟩, ?_⟩
  rw [iI_nat (by constructor <;> omega) (by omega), show ((s : Int)).toNat = s by omega, h9 s hs]
  refine vs_ok 7 ?_
  rw [show ((gRes 8).drop 11).take 7 = [.astore 2, .aload 0, .getfield 2, .iload 1, .aload 0, .getfield 12, .aastore] from rfl]
  simp only [vs_getfield, vs_aload0, vs_iload1, vs_astore2n, vs_astore2i, vs_astore2r, vs_astore2l, vs_nil, gv_0, gv_1, gv_2, gv_3, pv_0, pv_1, va_rf_s, vs_aastore, Nat.reduceDiv, Nat.reduceMod, Nat.reduceAdd, Nat.reduceMul, Int.reduceToNat, true_and, and_true, and_self, cP_eq, cP_ne, cP_lt, cP_ge, cP_gt, cP_le, eL_i, eL_l, eL_r, eL_n, Option.toList_none, Option.toList_some, List.nil_append, List.cons_append, h1, h2', h6, h7, h8, h2a, ha, r1.1, r1.2]
  refine ⟨(inB_iI (by constructor <;> omega)).mpr ⟨by omega, by omega⟩, ?_⟩
  rw [iI_nat (by constructor <;> omega) (by omega), show ((s : Int)).toNat = s by omega]
  refine vs_ok 3 ?_
  rw [show ((gRes 8).drop 18).take 3 = [.aload 0, .aload 2, .putfield 12] from rfl]
  simp only [vs_putfield, vs_aload0, vs_aload2, vs_nil, gv_0, gv_1, gv_2, gv_3, pv_0, pv_1, va_rf_s, Nat.reduceDiv, Nat.reduceMod, Nat.reduceAdd, Nat.reduceMul, Int.reduceToNat, true_and, and_true, and_self, cP_eq, cP_ne, cP_lt, cP_ge, cP_gt, cP_le, eL_i, eL_l, eL_r, eL_n, Option.toList_none, Option.toList_some, List.nil_append, List.cons_append, show zK (zsR h (b + 1) s (some (R 24))) b = 0 from h1, show b < zN (zsR h (b + 1) s (some (R 24))) from h2']
  refine ⟨_, if_pos r2.2, ?_⟩
  refine vs_ok 1 ?_
  rw [show ((gRes 8).drop 21).take 1 = [.return_] from rfl]
  simp only [vs_return_, vs_nil, gv_0, gv_1, gv_2, gv_3, pv_0, pv_1, va_rf_s, Nat.reduceDiv, Nat.reduceMod, Nat.reduceAdd, Nat.reduceMul, Int.reduceToNat, true_and, and_true, and_self, cP_eq, cP_ne, cP_lt, cP_ge, cP_gt, cP_le, eL_i, eL_l, eL_r, eL_n, Option.toList_none, Option.toList_some, List.nil_append, List.cons_append]
  have f : fr (fun q => q = b ∨ q = b + 1) h (zsR (zsR h (b + 1) s (some (R 24))) b 1 (some (R s))) := (fr_R (S := fun q => q = b ∨ q = b + 1) (Or.inr rfl)).tr (fr_R (S := fun q => q = b ∨ q = b + 1) (Or.inl rfl))
  have na : ∀ o, bnO b o → ¬ (o = b ∨ o = b + 1) ∧ ¬ (o + 1 = b ∨ o + 1 = b + 1) := fun o ho => by
    rcases ho with ho | ho | ho <;> constructor <;> omega
  refine ⟨by decide, hq _ f ⟨h1, h2, h3, h4, h5, ?_, h7, h8, fun i hi => ?_, ?_, ?_, ?_, fun i hi => he _ (swi_lt (by omega) (by omega) hi), fun i j hi hj e => swi_inj (hf _ _ (swi_lt (by omega) (by omega) hi) (swi_lt (by omega) (by omega) hj) e)⟩ fun i hi => ?_⟩
  · rw [zR_sR, if_neg (by simp), zR_sR, if_neg (by simp), h6]
  · rw [zR_sR, if_neg (by simp), zR_sR]
    show (if b + 1 = b + 1 ∧ i = s then _ else _) = some (R (swi s 24 i))
    unfold swi
    by_cases c : i = s
    · rw [if_pos ⟨rfl, c⟩, if_pos c]
    · rw [if_neg (fun z => c z.2), if_neg c, if_neg (by omega), h9 i hi]
  · rw [zR_sR, if_pos ⟨rfl, rfl⟩]
    show some (R s) = some (R (swi s 24 24))
    unfold swi
    rw [if_neg (by omega), if_pos rfl]
  · rw [zR_sR, if_neg (by simp), zR_sR, if_neg (by simp), hc]
    show some (R 25) = some (R (swi s 24 25))
    unfold swi
    rw [if_neg (by omega), if_neg (by omega)]
  · rw [zR_sR, if_neg (by simp), zR_sR, if_neg (by simp), hd]
  · have hi' := swi_lt (s := s) (q := 24) (i := i) (by omega) (by omega) hi
    exact (hv _ hi').keep f (na _ (he _ hi')).1 (na _ (he _ hi')).2
