/-! Bench.layRow -/
theorem t_layRow {d : Nat} {h : Hp} {b : Nat} {ht : Int} {o : Nat} {v : RowVal} {tm : Bool} {R : Nat → Nat} {V : Nat → RowVal} {Q : Nat → Option Value → Hp → Prop} (hb : bnC h b ht tm R) (hv : bnV h R V) (hz : bnZ h b) (ho : rowP h o 200 v) (hout : ∀ q, b ≤ q → q < b + 56 → q ≠ o ∧ q ≠ o + 1)
    (hq : ∀ h' V', fr (fun q => b ≤ q ∧ q < b + 56) h h' → bnC h' b (if ht < 24 then ht + 1 else ht) (if ht < 24 then tm else true) R → bnV h' R V' → bnZ h' b → (ht < 24 → tm = false → V' = fun i => if i = ht.toNat then v else V i) → Q 0 none h') : PR (d + 3) 6 [.ref b, .ref o] h Q := by
  have hb' := hb
  obtain ⟨h1, h2, h3, h4, h5, -⟩ := hb'
  have h2' : b < zN h := by omega
  show PW (d + 3) 6 0 [some (.ref b), some (.ref o)] [] h Q
  refine vs_ok 1 ?_
  rw [show ((gRes 6).drop 0).take 1 = [.aload 0] from rfl]
  simp only [vs_aload0, vs_nil, gv_0, gv_1, gv_2, gv_3, pv_0, pv_1, va_rf_s, Nat.reduceDiv, Nat.reduceMod, Nat.reduceAdd, Nat.reduceMul, Int.reduceToNat, true_and, and_true, and_self, cP_eq, cP_ne, cP_lt, cP_ge, cP_gt, cP_le, eL_i, eL_l, eL_r, eL_n, Option.toList_none, Option.toList_some, List.nil_append, List.cons_append]
  refine PW.iv rfl rfl rfl h1 h2' (le_b rfl) (le_b rfl) ?_
  have kv : ∀ g, fr (fun q => q = b) h g → bnV g R V ∧ bnZ g b := fun g f => ⟨fun i hi => (hv i hi).keep f (by rcases hb.2.2.2.2.2.2.2.2.2.2.2.2.1 i hi with o | o | o <;> omega) (by rcases hb.2.2.2.2.2.2.2.2.2.2.2.2.1 i hi with o | o | o <;> omega), hz.keep f (by omega) (by omega)⟩
  refine t_grow hb (fun c g f hg => ⟨rfl, ⟨f.2.2.1, rfl⟩, ?_⟩) (fun c g f hg => ⟨rfl, ⟨f.2.2.1, rfl⟩, ?_⟩)
  · obtain ⟨kv1, kv2⟩ := kv g f
    have sl : slF (ht + 1) 0 = ht := by
      unfold slF
      rw [if_pos ⟨by omega, by omega⟩]
      omega
    have k1 := hg.1
    have k2 : b < zN g := by rw [f.2.2.1]; exact h2'
    rw [if_pos c, if_pos c] at hq
    have fw : fr (fun q => b ≤ q ∧ q < b + 56) h g := f.wk fun q z => by omega
    cases tm with
    | true =>
      refine vs_ok 1 ?_
      rw [show ((gRes 6).drop 2).take 1 = [.ifCond .eq 7] from rfl]
      simp only [vs_ifCond, vs_nil, gv_0, gv_1, gv_2, gv_3, pv_0, pv_1, va_rf_s, Nat.reduceDiv, Nat.reduceMod, Nat.reduceAdd, Nat.reduceMul, Int.reduceToNat, true_and, and_true, and_self, cP_eq, cP_ne, cP_lt, cP_ge, cP_gt, cP_le, eL_i, eL_l, eL_r, eL_n, Option.toList_none, Option.toList_some, List.nil_append, List.cons_append]
      refine ⟨fun _ => ?_, fun z => (by simp at z)⟩
      refine vs_ok 1 ?_
      rw [show ((gRes 6).drop 7).take 1 = [.return_] from rfl]
      simp only [vs_return_, vs_nil, gv_0, gv_1, gv_2, gv_3, pv_0, pv_1, va_rf_s, Nat.reduceDiv, Nat.reduceMod, Nat.reduceAdd, Nat.reduceMul, Int.reduceToNat, true_and, and_true, and_self, cP_eq, cP_ne, cP_lt, cP_ge, cP_gt, cP_le, eL_i, eL_l, eL_r, eL_n, Option.toList_none, Option.toList_some, List.nil_append, List.cons_append]
      exact ⟨by decide, hq g V fw hg kv1 kv2 fun _ z => (by simp at z)⟩
    | false =>
      refine vs_ok 1 ?_
      rw [show ((gRes 6).drop 2).take 1 = [.ifCond .eq 7] from rfl]
      simp only [vs_ifCond, vs_nil, gv_0, gv_1, gv_2, gv_3, pv_0, pv_1, va_rf_s, Nat.reduceDiv, Nat.reduceMod, Nat.reduceAdd, Nat.reduceMul, Int.reduceToNat, true_and, and_true, and_self, cP_eq, cP_ne, cP_lt, cP_ge, cP_gt, cP_le, eL_i, eL_l, eL_r, eL_n, Option.toList_none, Option.toList_some, List.nil_append, List.cons_append]
      refine ⟨fun z => (by simp at z), fun _ => ?_⟩
      refine vs_ok 1 ?_
      rw [show ((gRes 6).drop 3).take 1 = [.aload 0] from rfl]
      simp only [vs_aload0, vs_nil, gv_0, gv_1, gv_2, gv_3, pv_0, pv_1, va_rf_s, Nat.reduceDiv, Nat.reduceMod, Nat.reduceAdd, Nat.reduceMul, Int.reduceToNat, true_and, and_true, and_self, cP_eq, cP_ne, cP_lt, cP_ge, cP_gt, cP_le, eL_i, eL_l, eL_r, eL_n, Option.toList_none, Option.toList_some, List.nil_append, List.cons_append]
      refine PW.iv rfl rfl rfl k1 k2 (le_b rfl) (le_b rfl) ?_
      have p := kv1 ht.toNat (by omega)
      refine t_topRow hg ?_
      rw [sl]
      refine ⟨rfl, ⟨rfl, decide_eq_true (Or.inl p.1.2.1)⟩, ?_⟩
      refine vs_ok 1 ?_
      rw [show ((gRes 6).drop 5).take 1 = [.aload 1] from rfl]
      simp only [vs_aload1, vs_nil, gv_0, gv_1, gv_2, gv_3, pv_0, pv_1, va_rf_s, Nat.reduceDiv, Nat.reduceMod, Nat.reduceAdd, Nat.reduceMul, Int.reduceToNat, true_and, and_true, and_self, cP_eq, cP_ne, cP_lt, cP_ge, cP_gt, cP_le, eL_i, eL_l, eL_r, eL_n, Option.toList_none, Option.toList_some, List.nil_append, List.cons_append]
      refine PW.iv rfl rfl rfl p.1.1 p.1.2.1 (le_b rfl) (le_b rfl) ?_
      have po : rowP g o 200 v := ho.keep f (fun z => (hout b (by omega) (by omega)).1 z.symm) (fun z => (hout b (by omega) (by omega)).2 z.symm)
      have oR := hg.2.2.2.2.2.2.2.2.2.2.2.2.1 ht.toNat (by omega)
      have b1 : b ≤ R ht.toNat ∧ R ht.toNat + 1 < b + 56 := by rcases oR with z | z | z <;> omega
      refine t_copy p po (by have := hout (R ht.toNat) b1.1 (by omega); have := hout (R ht.toNat + 1) (by omega) b1.2; unfold apt; omega) ⟨by have := po.2.2.2.2.1.1; omega, by have := po.2.2.2.2.1.2.1; omega⟩ fun g' f' v' => ⟨rfl, ⟨f'.2.2.1, rfl⟩, ?_⟩
      obtain ⟨u1, u2, u3⟩ := bn_upd hg kv1 kv2 (by omega) f' (v := v) v'
      refine vs_ok 1 ?_
      rw [show ((gRes 6).drop 7).take 1 = [.return_] from rfl]
      simp only [vs_return_, vs_nil, gv_0, gv_1, gv_2, gv_3, pv_0, pv_1, va_rf_s, Nat.reduceDiv, Nat.reduceMod, Nat.reduceAdd, Nat.reduceMul, Int.reduceToNat, true_and, and_true, and_self, cP_eq, cP_ne, cP_lt, cP_ge, cP_gt, cP_le, eL_i, eL_l, eL_r, eL_n, Option.toList_none, Option.toList_some, List.nil_append, List.cons_append]
      refine ⟨by decide, hq g' _ (fw.tr (f'.wk fun q z => ?_)) u1 u2 u3 fun _ _ => rfl⟩
      rcases hg.2.2.2.2.2.2.2.2.2.2.2.2.1 ht.toNat (by omega) with o | o | o <;> rcases z with z | z <;> omega
  · refine vs_ok 1 ?_
    rw [show ((gRes 6).drop 2).take 1 = [.ifCond .eq 7] from rfl]
    simp only [vs_ifCond, vs_nil, gv_0, gv_1, gv_2, gv_3, pv_0, pv_1, va_rf_s, Nat.reduceDiv, Nat.reduceMod, Nat.reduceAdd, Nat.reduceMul, Int.reduceToNat, true_and, and_true, and_self, cP_eq, cP_ne, cP_lt, cP_ge, cP_gt, cP_le, eL_i, eL_l, eL_r, eL_n, Option.toList_none, Option.toList_some, List.nil_append, List.cons_append]
    refine ⟨fun _ => ?_, fun z => (by simp at z)⟩
    refine vs_ok 1 ?_
    rw [show ((gRes 6).drop 7).take 1 = [.return_] from rfl]
    simp only [vs_return_, vs_nil, gv_0, gv_1, gv_2, gv_3, pv_0, pv_1, va_rf_s, Nat.reduceDiv, Nat.reduceMod, Nat.reduceAdd, Nat.reduceMul, Int.reduceToNat, true_and, and_true, and_self, cP_eq, cP_ne, cP_lt, cP_ge, cP_gt, cP_le, eL_i, eL_l, eL_r, eL_n, Option.toList_none, Option.toList_some, List.nil_append, List.cons_append]
    rw [if_neg c, if_neg c] at hq
    exact ⟨by decide, hq g V (f.wk fun q z => by omega) hg (kv g f).1 (kv g f).2 fun z => absurd z c⟩
