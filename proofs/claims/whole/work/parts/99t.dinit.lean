/-! Teller's constructor, DiceRing's -/
theorem bn_init {h : Hp} {b : Nat} (h1 : zK h b = 0) (h2 : b + 56 ≤ zN h) (i4 : zI h b 4 = 0) (i5 : zI h b 5 = 0) (r0 : zR h b 0 = some (b + 1)) (r1 : zR h b 1 = some (b + 2)) (r2 : zR h b 2 = some (b + 4)) (r3 : zR h b 3 = some (b + 6)) (k1 : zK h (b + 1) = 17) (l1 : zL h (b + 1) = 24) (hr : ∀ i, i < 24 → zR h (b + 1) i = some (b + 8 + 2 * i) ∧ rowV h (b + 8 + 2 * i) 200 0 0 0 (fun _ => 0)) (v2 : rowV h (b + 2) 200 0 0 0 (fun _ => 0)) (v4 : rowV h (b + 4) 200 0 0 0 (fun _ => 0)) (v6 : rowV h (b + 6) 200 0 0 1 (fun m => if m = 0 then 1 else 0)) : bnS h b [] false := by
  refine ⟨Nat.zero_le _, fun i => if i < 24 then b + 8 + 2 * i else if i = 24 then b + 2 else b + 4, fun _ => zV, ⟨h1, by omega, i4, i5, ⟨Int.le_refl _, by show (0 : Int) ≤ 24; omega⟩, r0, k1, l1, fun i hi => ?_, r1, r2, r3, fun i hi => ?_, fun i j hi hj e => ?_⟩, fun i hi => ?_, v6, fun i hi => Or.inr rfl, fun _ i v hv => by simp at hv⟩
  · dsimp only
    rw [if_pos hi]
    exact (hr i hi).1
  · dsimp only
    unfold bnO
    by_cases c : i < 24
    · rw [if_pos c]; omega
    · rw [if_neg c]
      by_cases c2 : i = 24
      · rw [if_pos c2]; omega
      · rw [if_neg c2]; omega
  · dsimp only at e
    by_cases c : i < 24
    · rw [if_pos c] at e
      by_cases c2 : j < 24
      · rw [if_pos c2] at e; omega
      · rw [if_neg c2] at e
        split at e <;> omega
    · rw [if_neg c] at e
      by_cases c2 : j < 24
      · rw [if_pos c2] at e
        split at e <;> omega
      · rw [if_neg c2] at e
        by_cases c3 : i = 24 <;> by_cases c4 : j = 24
        · omega
        · rw [if_pos c3, if_neg c4] at e; omega
        · rw [if_neg c3, if_pos c4] at e; omega
        · omega
  · dsimp only
    show rowV h _ 200 0 0 0 (fun _ => 0)
    by_cases c : i < 24
    · rw [if_pos c]
      exact (hr i c).2
    · rw [if_neg c]
      by_cases c2 : i = 24
      · rw [if_pos c2]; exact v2
      · rw [if_neg c2]; exact v4
theorem bnS.gk {S : Nat → Prop} {c s : Nat} {h g : Hp} {b : Nat} {st : List RowVal} {tm : Bool} (hb : bnS h b st tm) (hf : gw S c s h g) (hs : ∀ q, S q → ¬ bnA b q) : bnS g b st tm := by
  obtain ⟨hl, R, V, b1, b2, b3, b4, b5⟩ := hb
  have hr : ∀ i, i < 26 → ¬ S (R i) ∧ ¬ S (R i + 1) := fun i hi => by
    have := bn_at b1 hi
    exact ⟨fun z => hs _ z ⟨by omega, by omega⟩, fun z => hs _ z ⟨by omega, by omega⟩⟩
  obtain ⟨a1, a2, a3, a4, a5, a6, a7, a8, a9, aa, ab, ac, ad, ae⟩ := b1
  have n0 : ¬ S b := fun z => hs b z ⟨Nat.le_refl _, by omega⟩
  have n1 : ¬ S (b + 1) := fun z => hs _ z ⟨by omega, by omega⟩
  have e0 := hf.2.2.2.2.2.1 b (by omega) n0
  have r0 := hf.2.2.2.2.2.2.2 b (by omega) n0
  have r1 := hf.2.2.2.2.2.2.2 (b + 1) (by omega) n1
  refine ⟨hl, R, V, ⟨by rw [hf.2.2.2.1 b (by omega), a1], by rw [hf.1]; omega, by rw [e0, a3], by rw [e0, a4], a5, by rw [r0, a6], by rw [hf.2.2.2.1 _ (by omega), a7], by rw [hf.2.2.2.2.1 _ (by omega), a8], fun i hi => by rw [r1, a9 i hi], by rw [r0, aa], by rw [r0, ab], by rw [r0, ac], ad, ae⟩, fun i hi => (b2 i hi).gk hf (hr i hi).1 (hr i hi).2, b3.gk hf (fun z => hs _ z ⟨by omega, by omega⟩) (fun z => hs _ z ⟨by omega, by omega⟩), b4, b5⟩
theorem isTb.gk {S : Nat → Prop} {c s : Nat} {h g : Hp} {t : Nat} {nm : Int} {F Wd : Nat → Int} (ht : isTb h t nm F Wd) (f : gw S c s h g) (h0 : ∀ q, S q → ¬ (t ≤ q ∧ q < t + 28)) : isTb g t nm F Wd := by
  obtain ⟨a1, a2, a3, a4, a5, a6, a7⟩ := ht
  have n : ∀ k, k < 28 → ¬ S (t + k) := fun k hk z => h0 _ z ⟨by omega, by omega⟩
  have n0 := n 0 (by omega)
  have n1 := n 1 (by omega)
  have n2 := n 2 (by omega)
  have n3 := n 3 (by omega)
  have k0 := f.2.2.2.1
  have l0 := f.2.2.2.2.1
  have i0 := f.2.2.2.2.2.1
  have r0 := f.2.2.2.2.2.2.2
  refine ⟨by rw [k0 t (by omega)]; exact a1, by rw [f.1]; omega, ⟨by rw [r0 t (by omega) n0]; exact a3.1, by rw [k0 _ (by omega)]; exact a3.2.1, by rw [l0 _ (by omega)]; exact a3.2.2.1, fun i hi => by rw [r0 (t + 1) (by omega) n1]; exact a3.2.2.2 i hi⟩, ⟨by rw [r0 t (by omega) n0]; exact a4.1, by rw [k0 _ (by omega)]; exact a4.2.1, by rw [l0 _ (by omega)]; exact a4.2.2.1, fun i hi => by rw [i0 (t + 2) (by omega) n2]; exact a4.2.2.2 i hi⟩, ⟨by rw [r0 t (by omega) n0]; exact a5.1, by rw [k0 _ (by omega)]; exact a5.2.1, by rw [l0 _ (by omega)]; exact a5.2.2.1, fun i hi => by rw [i0 (t + 3) (by omega) n3]; exact a5.2.2.2 i hi⟩, by rw [i0 t (by omega) n0]; exact a6, a7⟩
/-- a table with its empty rows -/
def tb0 (h : Hp) (t : Nat) : Prop := isTb h t 0 (fun _ => 0) (fun _ => 0) ∧ ∀ i, i < 12 → rowV h (t + 4 + 2 * i) 200 0 0 0 (fun _ => 0)
theorem tb0.keep {S : Nat → Prop} {h g : Hp} {t : Nat} (ht : tb0 h t) (f : fr S h g) (h0 : ∀ q, S q → ¬ (t ≤ q ∧ q < t + 28)) : tb0 g t := ⟨ht.1.keep f h0, fun i hi => (ht.2 i hi).keep f (fun z => h0 _ z (by omega)) (fun z => h0 _ z (by omega))⟩
theorem tb0.gk {S : Nat → Prop} {c s : Nat} {h g : Hp} {t : Nat} (ht : tb0 h t) (f : gw S c s h g) (h0 : ∀ q, S q → ¬ (t ≤ q ∧ q < t + 28)) : tb0 g t := ⟨ht.1.gk f h0, fun i hi => (ht.2 i hi).gk f (fun z => h0 _ z (by omega)) (fun z => h0 _ z (by omega))⟩
/-- Teller at t as it is made: Reader t + 1, Bench t + 3, table t + 59 -/
def tl0 (h : Hp) (t : Nat) : Prop := teO h t (t + 59) ∧ (zK h (t + 1) = 5 ∧ zI h (t + 1) 4 = 0) ∧ bnS h (t + 3) [] false ∧ tb0 h (t + 59)
theorem t_Teller_init {d : Nat} {h : Hp} {t : Nat} {Q : Nat → Option Value → Hp → Prop} (h1 : zK h t = 8) (h2 : zN h = t + 1) (h3 : t + 87 ≤ zSC)
    (hq : ∀ h', gw (fun q => q = t) 86 (gN 5 + 0 + (gN 0 + 10986) + (gN 7 + 4908)) h h' → tl0 h' t → Q 0 none h') : PR (d + 4) m_Teller_init [.ref t] h Q := by
  show PW (d + 4) 94 0 [some (.ref t)] [] h Q
  refine vs_ok 2 ?_
  rw [show ((gRes 94).drop 0).take 2 = [.aload 0, .invokedynamic 4] from rfl]
  simp only [vs_aload0, vs_nil, gv_0, gv_1, gv_2, gv_3, pv_0, pv_1, va_rf_s, vs_abs, vs_max, vs_min, vs_oinit, Nat.reduceDiv, Nat.reduceMod, Nat.reduceAdd, Nat.reduceMul, Int.reduceToNat, true_and, and_true, and_self, cP_eq, cP_ne, cP_lt, cP_ge, cP_gt, cP_le, eL_i, eL_l, eL_r, eL_n, Option.toList_none, Option.toList_some, List.nil_append, List.cons_append]
  refine ⟨le_b rfl, ?_⟩
  refine PW.nobj (cc := 1) (ss := 0) (P := fun g => zK g (t + 1) = 5 ∧ zI g (t + 1) = (fun _ => 0) ∧ zN g = t + 3) rfl rfl rfl rfl rfl rfl (by decide) rfl (by decide) h1 (by omega) (by omega) (fun g Q' a b c e f => by
    rw [h2] at a b c e f ⊢
    exact t_Reader_init a (by omega) (by omega) fun g2 w2 i2 => f g2 w2 ⟨by rw [w2.2.2.2.1 _ (by omega)]; exact a, by rw [i2, c], by rw [w2.1, b]⟩) fun g5 g6 w6 f6 p6 i6 j6 r6 => ?_
  have n6 : zN g6 = t + 3 := by rw [f6.2.2.1]; exact p6.2.2
  have k6 : zK g6 t = 8 := by rw [w6.2.2.2.1 t (by omega)]; exact h1
  refine PW.nobj (cc := 55) (ss := 10986) (P := fun g => bnS g (t + 3) [] false ∧ zN g = t + 59) rfl rfl rfl rfl rfl rfl (by decide) rfl (by decide) k6 (by omega) (by omega) (fun g Q' a b c e f => by
    rw [n6] at a b c e f ⊢
    refine t_Bench_init (d := d) a b (by omega) fun g2 w2 i2 r0 r1 r2 r3 k1 l1 hr v2 v4 v6 => f g2 w2 ⟨?_, by rw [w2.1, b]⟩
    exact bn_init (by rw [w2.2.2.2.1 _ (by omega)]; exact a) (by rw [w2.1]; omega) (by rw [i2, c]) (by rw [i2, c]) r0 r1 r2 r3 k1 l1 hr v2 v4 v6) fun g7 g8 w8 f8 p8 i8 j8 r8 => ?_
  have n8 : zN g8 = t + 59 := by rw [f8.2.2.1]; exact p8.2
  have k8 : zK g8 t = 8 := by rw [w8.2.2.2.1 t (by omega)]; exact k6
  refine PW.nobj (cc := 27) (ss := 4908) (P := fun g => tb0 g (t + 59) ∧ zN g = t + 87) rfl rfl rfl rfl rfl rfl (by decide) rfl (by decide) k8 (by omega) (by omega) (fun g Q' a b c e f => by
    rw [n8] at a b c e f ⊢
    exact t_Table_init (d := d + 2) a b (by omega) c fun g2 w2 v1 v2 => f g2 w2 ⟨⟨v1, v2⟩, by rw [w2.1, b]⟩) fun g9 ga wa fa pa ia ja ra => ?_
  have na : zN ga = t + 87 := by rw [fa.2.2.1]; exact pa.2
  refine vs_ok 1 ?_
  rw [show ((gRes 94).drop 17).take 1 = [.return_] from rfl]
  simp only [vs_return_, vs_nil, gv_0, gv_1, gv_2, gv_3, pv_0, pv_1, va_rf_s, Nat.reduceDiv, Nat.reduceMod, Nat.reduceAdd, Nat.reduceMul, Int.reduceToNat, true_and, and_true, and_self, cP_eq, cP_ne, cP_lt, cP_ge, cP_gt, cP_le, eL_i, eL_l, eL_r, eL_n, Option.toList_none, Option.toList_some, List.nil_append, List.cons_append]
  refine ⟨by decide, hq ga ((w6.tr (w8.wk fun q _ z => Or.inl z)).tr (wa.wk fun q _ z => Or.inl z)) ⟨⟨by rw [wa.2.2.2.1 t (by omega)]; exact k8, by omega, ?_, ?_, ?_⟩, ⟨?_, ?_⟩, ?_, pa.1.keep fa (fun q z => by omega)⟩⟩
  · rw [ra, if_neg (by omega), r8, if_neg (by omega), r6, if_pos rfl, h2]
  · rw [ra, if_neg (by omega), r8, if_pos rfl, n6]
  · rw [ra, if_pos rfl, n8]
  · rw [wa.2.2.2.1 _ (by omega), w8.2.2.2.1 _ (by omega), f6.1]
    exact p6.1
  · rw [wa.2.2.2.2.2.1 _ (by omega) (by omega), w8.2.2.2.2.2.1 _ (by omega) (by omega), f6.2.2.2.2.2.1 _ (by omega), p6.2.1]
  · exact (p8.1.keep f8 (fun q z => by unfold bnA; omega)).gk wa (fun q z => by unfold bnA; omega)
