/-! a constructor's step: a new array of numbers in a field -/
theorem PW.arr {d k i a j y c : Nat} {n : Int} {ty : ArrayType} {ls : List (Option Value)} {h : Hp} {Q : Nat → Option Value → Hp → Prop} (hr : ((gRes k).drop i).take 4 = [.aload 0, .iconst n, .newarray ty, .putfield c]) (h1 : c / 1000 = y) (h2 : c / 10 % 100 = j) (h3 : c % 10 = 2) (hk : zK h a = y) (ha : a < zN h) (hz : zN h < zSC) (hty : 13 ≤ atk ty) (hn : 0 ≤ n ∧ n ≤ 100000)
    (ho : ls = [some (.ref a)])
    (hq : ∀ h', gw (fun q => q = a) 1 n.toNat h h' → zK h' (zN h) = atk ty → zL h' (zN h) = n.toNat → zI h' (zN h) = (fun _ => 0) → zJ h' (zN h) = (fun _ => 0) → zI h' a = zI h a → zJ h' a = zJ h a → (∀ q, zR h' a q = if q = j then some (zN h) else zR h a q) → PW d k (i + 4) ls [] h' Q) : PW d k i ls [] h Q := by
  subst ho
  have fo : fOK (zN h) [some (.ref a)] [.ref a] = true := by
    show (decide (a < zN h ∨ a = zSC) && true && (decide (a < zN h ∨ a = zSC) && true)) = true
    rw [decide_eq_true (Or.inl ha)]
    rfl
  have e3 : (Int32.ofInt n).toNatClampNeg = n.toNat := iI_nat (by constructor <;> omega) hn.1
  refine vs_ok 4 ?_
  rw [hr]
  simp only [vs_aload0, vs_iconst, vs_newarray, vs_putfield, vs_nil, h1, h2, h3, pv, e3, true_and, and_true]
  refine ⟨⟨hty, (zge0 (by constructor <;> omega)).mpr hn.1, by omega, hz, fo⟩, ?_⟩
  have w : gw (fun _ => False) 1 n.toNat h (zNew h (atk ty) n.toNat n.toNat) := gw_new
  have q1 := zNew_K (h := h) (k := atk ty) (n := n.toNat) (s := n.toNat)
  have q2 := zNew_L (h := h) (k := atk ty) (n := n.toNat) (s := n.toNat)
  have q4 := zNew_J (h := h) (k := atk ty) (n := n.toNat) (s := n.toNat)
  have q3 := zNew_I (h := h) (k := atk ty) (n := n.toNat) (s := n.toNat)
  generalize zNew h (atk ty) n.toNat n.toNat = g at *
  have b : zN h < zN g := by rw [w.1]; omega
  refine ⟨⟨by rw [w.2.2.2.1 a ha, hk], by omega⟩, _, if_pos b, ?_⟩
  refine hq _ ((w.wk (T := fun q => q = a) (fun _ _ c => c.elim)).tr (gw.of_fr (fr_R (S := fun q => q = a ∨ zN h ≤ q) (Or.inl rfl)))) q1 q2 ?_ ?_ ?_ ?_ fun q => ?_
  · exact q3
  · exact q4
  · exact w.2.2.2.2.2.1 a ha (fun c => c)
  · exact w.2.2.2.2.2.2.1 a ha (fun c => c)
  · rw [zR_sR, w.2.2.2.2.2.2.2 a ha (fun c => c)]
    by_cases c : q = j
    · rw [if_pos ⟨rfl, c⟩, if_pos c]
    · rw [if_neg (fun z => c z.2), if_neg c]
theorem t_Reader_init {d : Nat} {h : Hp} {r : Nat} {Q : Nat → Option Value → Hp → Prop} (h1 : zK h r = 5) (h2 : r < zN h) (h3 : zN h < zSC)
    (hq : ∀ h', gw (fun q => q = r) 1 0 h h' → zI h' r = zI h r → Q 0 none h') : PR d m_Reader_init [.ref r] h Q := by
  show PW d 54 0 [some (.ref r)] [] h Q
  refine vs_ok 2 ?_
  rw [show ((gRes 54).drop 0).take 2 = [.aload 0, .invokedynamic 4] from rfl]
  simp only [vs_aload0, vs_nil, gv_0, gv_1, gv_2, gv_3, pv_0, pv_1, va_rf_s, vs_abs, vs_max, vs_min, vs_oinit, Nat.reduceDiv, Nat.reduceMod, Nat.reduceAdd, Nat.reduceMul, Int.reduceToNat, true_and, and_true, and_self, cP_eq, cP_ne, cP_lt, cP_ge, cP_gt, cP_le, eL_i, eL_l, eL_r, eL_n, Option.toList_none, Option.toList_some, List.nil_append, List.cons_append]
  refine ⟨le_b rfl, ?_⟩
  refine PW.arr rfl rfl rfl rfl h1 h2 h3 (by decide) (by decide) rfl fun g w _ _ _ _ wi _ _ => ?_
  refine vs_ok 1 ?_
  rw [show ((gRes 54).drop 6).take 1 = [.return_] from rfl]
  simp only [vs_return_, vs_nil, gv_0, gv_1, gv_2, gv_3, pv_0, pv_1, va_rf_s, Nat.reduceDiv, Nat.reduceMod, Nat.reduceAdd, Nat.reduceMul, Int.reduceToNat, true_and, and_true, and_self, cP_eq, cP_ne, cP_lt, cP_ge, cP_gt, cP_le, eL_i, eL_l, eL_r, eL_n, Option.toList_none, Option.toList_some, List.nil_append, List.cons_append]
  exact ⟨by decide, hq g w wi⟩
