/-! Bench.layNumber -/
theorem t_layNumber {d : Nat} {h : Hp} {b : Nat} {ht n : Int} {tm : Bool} {R : Nat → Nat} {V : Nat → RowVal} {Q : Nat → Option Value → Hp → Prop} (hb : bnC h b ht tm R) (hv : bnV h R V) (hz : bnZ h b) (hn : -200 ≤ n ∧ n ≤ 200)
    (hq : ∀ h' V', fr (fun q => b ≤ q ∧ q < b + 56) h h' → bnC h' b (if ht < 24 then ht + 1 else ht) (if ht < 24 then tm else true) R → bnV h' R V' → bnZ h' b → (ht < 24 → tm = false → V' = fun i => if i = ht.toNat then (n, n, 1, fun m => if m = n then 1 else 0) else V i) → Q 0 none h') : PR (d + 3) 5 [.ref b, .int (iI n)] h Q := by
  have hb' := hb
  obtain ⟨h1, h2, h3, h4, h5, -⟩ := hb'
  have h2' : b < zN h := by omega
  show PW (d + 3) 5 0 [some (.ref b), some (.int (iI n))] [] h Q
  refine vs_ok 1 ?_
  rw [show ((gRes 5).drop 0).take 1 = [.aload 0] from rfl]
  simp only [vs_aload0, vs_nil, gv_0, gv_1, gv_2, gv_3, pv_0, pv_1, va_rf_s, Nat.reduceDiv, Nat.reduceMod, Nat.reduceAdd, Nat.reduceMul, Int.reduceToNat, true_and, and_true, and_self, cP_eq, cP_ne, cP_lt, cP_ge, cP_gt, cP_le, eL_i, eL_l, eL_r, eL_n, Option.toList_none, Option.toList_some, List.nil_append, List.cons_append]
  refine PW.iv rfl rfl rfl h1 h2' (le_b rfl) (le_b rfl) ?_
  have kv : ∀ g, fr (fun q => q = b) h g → bnV g R V ∧ bnZ g b := fun g f => ⟨fun i hi => (hv i hi).keep f (by rcases hb.2.2.2.2.2.2.2.2.2.2.2.2.1 i hi with o | o | o <;> omega) (by rcases hb.2.2.2.2.2.2.2.2.2.2.2.2.1 i hi with o | o | o <;> omega), hz.keep f (by omega) (by omega)⟩
  refine t_grow hb (fun c g f hg => ⟨rfl, ⟨f.2.2.1, rfl⟩, ?_⟩) (fun c g f hg => ⟨rfl, ⟨f.2.2.1, rfl⟩, ?_⟩)
  · sorry
  · refine vs_ok 1 ?_
    rw [show ((gRes 5).drop 2).take 1 = [.ifCond .eq 7] from rfl]
    simp only [vs_ifCond, vs_nil, gv_0, gv_1, gv_2, gv_3, pv_0, pv_1, va_rf_s, Nat.reduceDiv, Nat.reduceMod, Nat.reduceAdd, Nat.reduceMul, Int.reduceToNat, true_and, and_true, and_self, cP_eq, cP_ne, cP_lt, cP_ge, cP_gt, cP_le, eL_i, eL_l, eL_r, eL_n, Option.toList_none, Option.toList_some, List.nil_append, List.cons_append]
    sorry
