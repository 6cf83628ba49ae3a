/-! steps of constructors: an array with its zeros, an object in a field; FaceSearch's, WordSearch's, Game's, Teller's -/
/-- an object of kind y at x whose fields hold new arrays, in the cells from x + o on: (field, kind, length) -/
def objM (h : Hp) (x y o : Nat) (l : List (Nat × Nat × Nat)) : Prop := zK h x = y ∧ x + o + l.length ≤ zN h ∧ ∀ i p, l[i]? = some p → zR h x p.1 = some (x + o + i) ∧ zK h (x + o + i) = p.2.1 ∧ zL h (x + o + i) = p.2.2
/-- the cells behind x hold zeros -/
abbrev zer (h : Hp) (x : Nat) : Prop := ∀ q, x < q → q < zN h → zI h q = (fun _ => 0) ∧ zJ h q = fun _ => 0
theorem PW.arm {d k i x y o c j : Nat} {n : Int} {ty : ArrayType} {ls : List (Option Value)} {h0 h : Hp} {C S : Nat} {l : List (Nat × Nat × Nat)} {Q : Nat → Option Value → Hp → Prop} (hr : ((gRes k).drop i).take 4 = [.aload 0, .iconst n, .newarray ty, .putfield c]) (h1 : c / 1000 = y) (h2 : c / 10 % 100 = j) (h3 : c % 10 = 2) (hj : ∀ p ∈ l, p.1 ≠ j) (ho : objM h x y o l) (hN : zN h = x + o + l.length) (h0' : 1 ≤ o) (hz : zN h < zSC) (hty : 13 ≤ atk ty) (hn : 0 ≤ n ∧ n ≤ 100000) (hw : gw (fun q => q = x) C S h0 h) (hI : zI h x = zI h0 x) (hJ : zJ h x = zJ h0 x) (hx : x < zN h0) (hzz : zer h x)
    (hs : ls = [some (.ref x)])
    (hq : ∀ h', gw (fun q => q = x) (C + 1) (S + n.toNat) h0 h' → zI h' x = zI h0 x → zJ h' x = zJ h0 x → objM h' x y o (l ++ [(j, atk ty, n.toNat)]) → zN h' = x + o + (l.length + 1) → zer h' x → (∀ q, q ≠ j → zR h' x q = zR h x q) → PW d k (i + 4) ls [] h' Q) : PW d k i ls [] h Q := by
  have ho' := ho
  obtain ⟨a, b, e⟩ := ho'
  refine PW.arr (y := y) (j := j) hr h1 h2 h3 a (by omega) hz hty hn hs fun g w q1 q2 q3 q4 wi wj wr => ?_
  have hg : zN g = x + o + (l.length + 1) := by rw [w.1]; omega
  refine hq g (hw.tr (w.wk fun _ _ c => Or.inl c)) (wi.trans hI) (wj.trans hJ) ⟨?_, ?_, fun i p hp => ?_⟩ hg (fun q hq1 hq2 => ?_) fun q hq => by rw [wr, if_neg hq]
  · rw [w.2.2.2.1 x (by omega), a]
  · rw [List.length_append]
    show x + o + (l.length + 1) ≤ zN g
    omega
  · rw [wr]
    by_cases ci : i < l.length
    · rw [List.getElem?_append_left ci] at hp
      obtain ⟨e1, e2, e3⟩ := e i p hp
      rw [if_neg (hj p (List.mem_of_getElem? hp)), w.2.2.2.1 _ (by omega), w.2.2.2.2.1 _ (by omega)]
      exact ⟨e1, e2, e3⟩
    · rw [List.getElem?_append_right (by omega)] at hp
      have hi : i = l.length := by
        have := (List.getElem?_eq_some_iff.mp hp).1
        simp at this
        omega
      subst hi
      rw [Nat.sub_self] at hp
      have hp' : (j, atk ty, n.toNat) = p := by
        simpa using hp
      subst hp'
      rw [if_pos rfl, ← hN]
      exact ⟨rfl, q1, q2⟩
  · by_cases c : q = zN h
    · rw [c]
      exact ⟨q3, q4⟩
    · rw [w.2.2.2.2.2.1 q (by omega) (by omega), w.2.2.2.2.2.2.1 q (by omega) (by omega)]
      exact hzz q hq1 (by omega)
theorem objM0 {h : Hp} {x y o : Nat} (h1 : zK h x = y) (h2 : zN h = x + o) : objM h x y o [] := ⟨h1, by show x + o + 0 ≤ zN h; omega, fun i p hp => by simp at hp⟩
/-- a new object of kind z, made by ini, in field j -/
theorem PW.nobj {d k i a j y c z ini cc ss : Nat} {h : Hp} {P : Hp → Prop} {Q : Nat → Option Value → Hp → Prop} (hr : ((gRes k).drop i).take 3 = [.aload 0, .new z, .dup]) (hr2 : (gRes k)[i + 3]? = some (.invokespecial ini)) (hr3 : ((gRes k).drop (i + 4)).take 1 = [.putfield c]) (h1 : c / 1000 = y) (h2 : c / 10 % 100 = j) (h3 : c % 10 = 2) (h4 : z < 13) (h5 : gNP ini = 0) (h6 : 1 ≤ gML ini) (hk : zK h a = y) (ha : a < zN h) (hz : zN h < zSC)
    (hini : ∀ g Q', zK g (zN h) = z → zN g = zN h + 1 → zI g (zN h) = (fun _ => 0) → zJ g (zN h) = (fun _ => 0) → (∀ g2, gw (fun q => q = zN h) cc ss g g2 → P g2 → Q' 0 none g2) → PR d ini [.ref (zN h)] g Q')
    (hq : ∀ g2 h', gw (fun q => q = a) (1 + cc) (gN z + ss) h h' → fr (fun q => q = a) g2 h' → P g2 → zI h' a = zI h a → zJ h' a = zJ h a → (∀ q, zR h' a q = if q = j then some (zN h) else zR h a q) → PW (d + 1) k (i + 5) [some (.ref a)] [] h' Q) : PW (d + 1) k i [some (.ref a)] [] h Q := by
  have fo : fOK (zN h) [some (.ref a)] [.ref a] = true := by
    show (decide (a < zN h ∨ a = zSC) && true && (decide (a < zN h ∨ a = zSC) && true)) = true
    rw [decide_eq_true (Or.inl ha)]
    rfl
  refine vs_ok 3 ?_
  rw [hr]
  simp only [vs_aload0, vs_new, vs_dupr, vs_nil, true_and, and_true]
  refine ⟨⟨h4, hz, fo⟩, ?_⟩
  have w1 : gw (fun _ => False) 1 (gN z) h (zNew h z 0 (gN z)) := gw_new
  have q1 := zNew_K (h := h) (k := z) (n := 0) (s := gN z)
  have q2 := zNew_I (h := h) (k := z) (n := 0) (s := gN z)
  have q3 := zNew_J (h := h) (k := z) (n := 0) (s := gN z)
  generalize zNew h z 0 (gN z) = g at *
  have a1 : a < zN g := by rw [w1.1]; omega
  have b1 : zN h < zN g := by rw [w1.1]; omega
  refine PW.is hr2 (b := zN h) (a := []) (r := [.ref (zN h), .ref a]) (by rw [h5]; rfl) (by rw [h5]; rfl) (le_b rfl) h6 ?_
  refine hini g _ q1 (by rw [w1.1]) q2 q3 fun g2 w2 p2 => ⟨rfl, Or.inr ?_, ?_⟩
  · show ((decide (a < zN g ∨ a = zSC) && true) && (decide (zN h < zN g ∨ zN h = zSC) && (decide (a < zN g ∨ a = zSC) && true))) = true
    rw [decide_eq_true (Or.inl a1), decide_eq_true (Or.inl b1)]
    rfl
  have k2 : zK g2 a = y := by rw [w2.2.2.2.1 a a1, w1.2.2.2.1 a ha, hk]
  have n2 : zN h < zN g2 := by rw [w2.1]; omega
  have na : a ≠ zN h := by omega
  refine vs_ok 1 ?_
  rw [show i + 1 + 1 + 1 + 1 = i + 4 from rfl, hr3]
  simp only [vs_putfield, vs_nil, Option.toList_none, List.nil_append, h1, h2, h3, pv, true_and, and_true]
  refine ⟨⟨k2, by omega⟩, _, if_pos n2, ?_⟩
  refine hq g2 _ (((w1.wk (T := fun q => q = a) (fun _ _ c => c.elim)).tr (w2.wk fun q _ c => Or.inr (by omega))).tr (gw.of_fr (fr_R (S := fun q => q = a ∨ zN h ≤ q) (Or.inl rfl)))) (fr_R rfl) p2 ?_ ?_ fun q => ?_
  · show zI g2 a = _
    rw [w2.2.2.2.2.2.1 a a1 na, w1.2.2.2.2.2.1 a ha (fun c => c)]
  · show zJ g2 a = _
    rw [w2.2.2.2.2.2.2.1 a a1 na, w1.2.2.2.2.2.2.1 a ha (fun c => c)]
  · rw [zR_sR, w2.2.2.2.2.2.2.2 a a1 na, w1.2.2.2.2.2.2.2 a ha (fun c => c)]
    by_cases c : q = j
    · rw [if_pos ⟨rfl, c⟩, if_pos c]
    · rw [if_neg (fun z => c z.2), if_neg c]
/-- Game's constructor, with its shares' zeros -/
theorem t_Game_init0 {d : Nat} {h : Hp} {x : Nat} {Q : Nat → Option Value → Hp → Prop} (h1 : zK h x = 2) (h2 : zN h = x + 1) (h3 : x + 5 ≤ zSC)
    (hq : ∀ h', gw (fun q => q = x) 4 75 h h' → objA h' x 2 gaL → zI h' (x + 4) = (fun _ => 0) → Q 0 none h') : PR d m_Game_init [.ref x] h Q := by
  show PW d 24 0 [some (.ref x)] [] h Q
  refine vs_ok 2 ?_
  rw [show ((gRes 24).drop 0).take 2 = [.aload 0, .invokedynamic 4] from rfl]
  simp only [vs_aload0, vs_nil, gv_0, gv_1, gv_2, gv_3, pv_0, pv_1, va_rf_s, vs_abs, vs_max, vs_min, vs_oinit, Nat.reduceDiv, Nat.reduceMod, Nat.reduceAdd, Nat.reduceMul, Int.reduceToNat, true_and, and_true, and_self, cP_eq, cP_ne, cP_lt, cP_ge, cP_gt, cP_le, eL_i, eL_l, eL_r, eL_n, Option.toList_none, Option.toList_some, List.nil_append, List.cons_append]
  refine ⟨le_b rfl, ?_⟩
  refine PW.arm rfl rfl rfl rfl (by decide) (objM0 h1 h2) h2 (by omega) (by rw [h2]; show x + 1 + 0 < zSC; omega) (by decide) (by decide) (gw.of_fr fr.rf) rfl rfl (by omega) (fun q a b => by omega) rfl fun g0 w0 z0 y0 o0 n0 u0 r0 => ?_
  refine PW.arm rfl rfl rfl rfl (by decide) o0 n0 (by omega) (by rw [n0]; show x + 1 + 1 < zSC; omega) (by decide) (by decide) w0 z0 y0 (by omega) u0 rfl fun g1 w1 z1 y1 o1 n1 u1 r1 => ?_
  refine PW.arm rfl rfl rfl rfl (by decide) o1 n1 (by omega) (by rw [n1]; show x + 1 + 2 < zSC; omega) (by decide) (by decide) w1 z1 y1 (by omega) u1 rfl fun g2 w2 z2 y2 o2 n2 u2 r2 => ?_
  refine PW.arm rfl rfl rfl rfl (by decide) o2 n2 (by omega) (by rw [n2]; show x + 1 + 3 < zSC; omega) (by decide) (by decide) w2 z2 y2 (by omega) u2 rfl fun g3 w3 z3 y3 o3 n3 u3 r3 => ?_
  refine vs_ok 1 ?_
  rw [show ((gRes 24).drop 18).take 1 = [.return_] from rfl]
  simp only [vs_return_, vs_nil, gv_0, gv_1, gv_2, gv_3, pv_0, pv_1, va_rf_s, Nat.reduceDiv, Nat.reduceMod, Nat.reduceAdd, Nat.reduceMul, Int.reduceToNat, true_and, and_true, and_self, cP_eq, cP_ne, cP_lt, cP_ge, cP_gt, cP_le, eL_i, eL_l, eL_r, eL_n, Option.toList_none, Option.toList_some, List.nil_append, List.cons_append]
  refine ⟨by decide, hq _ w3 ⟨o3.1, by have := o3.2.1; exact this, fun i p hp => ?_⟩ (u3 (x + 4) (by omega) (by rw [n3]; show x + 4 < x + 1 + 4; omega)).1⟩
  have e := o3.2.2
  match i, hp with
  | 0, hp => cases hp; exact e 0 (0, 14, 7) rfl
  | 1, hp => cases hp; exact e 1 (1, 14, 49) rfl
  | 2, hp => cases hp; exact e 2 (2, 15, 7) rfl
  | 3, hp => cases hp; exact e 3 (3, 14, 12) rfl
/-- Pairs' constructor, with zeros -/
theorem t_Pairs_init0 {d : Nat} {h : Hp} {x : Nat} {Q : Nat → Option Value → Hp → Prop} (h1 : zK h x = 4) (h2 : zN h = x + 1) (h3 : x + 4 ≤ zSC)
    (hq : ∀ h', gw (fun q => q = x) 3 6700 h h' → objA h' x 4 paL → zI h' x = zI h x → zJ h' x = zJ h x → zer h' x → zN h' = x + 4 → Q 0 none h') : PR d m_Pairs_init [.ref x] h Q := by
  show PW d 48 0 [some (.ref x)] [] h Q
  refine vs_ok 2 ?_
  rw [show ((gRes 48).drop 0).take 2 = [.aload 0, .invokedynamic 4] from rfl]
  simp only [vs_aload0, vs_nil, gv_0, gv_1, gv_2, gv_3, pv_0, pv_1, va_rf_s, vs_abs, vs_max, vs_min, vs_oinit, Nat.reduceDiv, Nat.reduceMod, Nat.reduceAdd, Nat.reduceMul, Int.reduceToNat, true_and, and_true, and_self, cP_eq, cP_ne, cP_lt, cP_ge, cP_gt, cP_le, eL_i, eL_l, eL_r, eL_n, Option.toList_none, Option.toList_some, List.nil_append, List.cons_append]
  refine ⟨le_b rfl, ?_⟩
  refine PW.arm rfl rfl rfl rfl (by decide) (objM0 h1 h2) h2 (by omega) (by rw [h2]; show x + 1 + 0 < zSC; omega) (by decide) (by decide) (gw.of_fr fr.rf) rfl rfl (by omega) (fun q a b => by omega) rfl fun g0 w0 z0 y0 o0 n0 u0 r0 => ?_
  refine PW.arm rfl rfl rfl rfl (by decide) o0 n0 (by omega) (by rw [n0]; show x + 1 + 1 < zSC; omega) (by decide) (by decide) w0 z0 y0 (by omega) u0 rfl fun g1 w1 z1 y1 o1 n1 u1 r1 => ?_
  refine PW.arm rfl rfl rfl rfl (by decide) o1 n1 (by omega) (by rw [n1]; show x + 1 + 2 < zSC; omega) (by decide) (by decide) w1 z1 y1 (by omega) u1 rfl fun g2 w2 z2 y2 o2 n2 u2 r2 => ?_
  refine vs_ok 1 ?_
  rw [show ((gRes 48).drop 14).take 1 = [.return_] from rfl]
  simp only [vs_return_, vs_nil, gv_0, gv_1, gv_2, gv_3, pv_0, pv_1, va_rf_s, Nat.reduceDiv, Nat.reduceMod, Nat.reduceAdd, Nat.reduceMul, Int.reduceToNat, true_and, and_true, and_self, cP_eq, cP_ne, cP_lt, cP_ge, cP_gt, cP_le, eL_i, eL_l, eL_r, eL_n, Option.toList_none, Option.toList_some, List.nil_append, List.cons_append]
  refine ⟨by decide, hq _ w2 ⟨o2.1, by have := o2.2.1; exact this, fun i p hp => ?_⟩ z2 y2 u2 n2⟩
  have e := o2.2.2
  match i, hp with
  | 0, hp => cases hp; exact e 0 (0, 14, 6500) rfl
  | 1, hp => cases hp; exact e 1 (1, 14, 100) rfl
  | 2, hp => cases hp; exact e 2 (2, 14, 100) rfl
/-- WordCount's constructor, with zeros -/
theorem t_WordCount_init0 {d : Nat} {h : Hp} {x : Nat} {Q : Nat → Option Value → Hp → Prop} (h1 : zK h x = 9) (h2 : zN h = x + 1) (h3 : x + 6 ≤ zSC)
    (hq : ∀ h', gw (fun q => q = x) 5 356 h h' → objA h' x 9 wcL → zI h' x = zI h x → zJ h' x = zJ h x → zer h' x → zN h' = x + 6 → Q 0 none h') : PR d m_WordCount_init [.ref x] h Q := by
  show PW d 112 0 [some (.ref x)] [] h Q
  refine vs_ok 2 ?_
  rw [show ((gRes 112).drop 0).take 2 = [.aload 0, .invokedynamic 4] from rfl]
  simp only [vs_aload0, vs_nil, gv_0, gv_1, gv_2, gv_3, pv_0, pv_1, va_rf_s, vs_abs, vs_max, vs_min, vs_oinit, Nat.reduceDiv, Nat.reduceMod, Nat.reduceAdd, Nat.reduceMul, Int.reduceToNat, true_and, and_true, and_self, cP_eq, cP_ne, cP_lt, cP_ge, cP_gt, cP_le, eL_i, eL_l, eL_r, eL_n, Option.toList_none, Option.toList_some, List.nil_append, List.cons_append]
  refine ⟨le_b rfl, ?_⟩
  refine PW.arm rfl rfl rfl rfl (by decide) (objM0 h1 h2) h2 (by omega) (by rw [h2]; show x + 1 + 0 < zSC; omega) (by decide) (by decide) (gw.of_fr fr.rf) rfl rfl (by omega) (fun q a b => by omega) rfl fun g0 w0 z0 y0 o0 n0 u0 r0 => ?_
  refine PW.arm rfl rfl rfl rfl (by decide) o0 n0 (by omega) (by rw [n0]; show x + 1 + 1 < zSC; omega) (by decide) (by decide) w0 z0 y0 (by omega) u0 rfl fun g1 w1 z1 y1 o1 n1 u1 r1 => ?_
  refine PW.arm rfl rfl rfl rfl (by decide) o1 n1 (by omega) (by rw [n1]; show x + 1 + 2 < zSC; omega) (by decide) (by decide) w1 z1 y1 (by omega) u1 rfl fun g2 w2 z2 y2 o2 n2 u2 r2 => ?_
  refine PW.arm rfl rfl rfl rfl (by decide) o2 n2 (by omega) (by rw [n2]; show x + 1 + 3 < zSC; omega) (by decide) (by decide) w2 z2 y2 (by omega) u2 rfl fun g3 w3 z3 y3 o3 n3 u3 r3 => ?_
  refine PW.arm rfl rfl rfl rfl (by decide) o3 n3 (by omega) (by rw [n3]; show x + 1 + 4 < zSC; omega) (by decide) (by decide) w3 z3 y3 (by omega) u3 rfl fun g4 w4 z4 y4 o4 n4 u4 r4 => ?_
  refine vs_ok 1 ?_
  rw [show ((gRes 112).drop 22).take 1 = [.return_] from rfl]
  simp only [vs_return_, vs_nil, gv_0, gv_1, gv_2, gv_3, pv_0, pv_1, va_rf_s, Nat.reduceDiv, Nat.reduceMod, Nat.reduceAdd, Nat.reduceMul, Int.reduceToNat, true_and, and_true, and_self, cP_eq, cP_ne, cP_lt, cP_ge, cP_gt, cP_le, eL_i, eL_l, eL_r, eL_n, Option.toList_none, Option.toList_some, List.nil_append, List.cons_append]
  refine ⟨by decide, hq _ w4 ⟨o4.1, by have := o4.2.1; exact this, fun i p hp => ?_⟩ z4 y4 u4 n4⟩
  have e := o4.2.2
  match i, hp with
  | 0, hp => cases hp; exact e 0 (0, 14, 4) rfl
  | 1, hp => cases hp; exact e 1 (1, 14, 16) rfl
  | 2, hp => cases hp; exact e 2 (2, 14, 64) rfl
  | 3, hp => cases hp; exact e 3 (3, 14, 256) rfl
  | 4, hp => cases hp; exact e 4 (4, 14, 16) rfl
theorem t_Net_init0 {d : Nat} {h : Hp} {x : Nat} {Q : Nat → Option Value → Hp → Prop} (h1 : zK h x = 3) (h2 : zN h = x + 1) (h3 : x + 4 ≤ zSC)
    (hq : ∀ h', gw (fun q => q = x) 3 36 h h' → objA h' x 3 netL → zI h' x = zI h x → zer h' x → zN h' = x + 4 → Q 0 none h') : PR d m_Net_init [.ref x] h Q := by
  show PW d 33 0 [some (.ref x)] [] h Q
  refine vs_ok 2 ?_
  rw [show ((gRes 33).drop 0).take 2 = [.aload 0, .invokedynamic 4] from rfl]
  simp only [vs_aload0, vs_nil, gv_0, gv_1, gv_2, gv_3, pv_0, pv_1, va_rf_s, vs_abs, vs_max, vs_min, vs_oinit, Nat.reduceDiv, Nat.reduceMod, Nat.reduceAdd, Nat.reduceMul, Int.reduceToNat, true_and, and_true, and_self, cP_eq, cP_ne, cP_lt, cP_ge, cP_gt, cP_le, eL_i, eL_l, eL_r, eL_n, Option.toList_none, Option.toList_some, List.nil_append, List.cons_append]
  refine ⟨le_b rfl, ?_⟩
  refine PW.arm rfl rfl rfl rfl (by decide) (objM0 h1 h2) h2 (by omega) (by rw [h2]; show x + 1 + 0 < zSC; omega) (by decide) (by decide) (gw.of_fr fr.rf) rfl rfl (by omega) (fun q a b => by omega) rfl fun g0 w0 z0 y0 o0 n0 u0 r0 => ?_
  refine PW.arm rfl rfl rfl rfl (by decide) o0 n0 (by omega) (by rw [n0]; show x + 1 + 1 < zSC; omega) (by decide) (by decide) w0 z0 y0 (by omega) u0 rfl fun g1 w1 z1 y1 o1 n1 u1 r1 => ?_
  refine PW.arm rfl rfl rfl rfl (by decide) o1 n1 (by omega) (by rw [n1]; show x + 1 + 2 < zSC; omega) (by decide) (by decide) w1 z1 y1 (by omega) u1 rfl fun g2 w2 z2 y2 o2 n2 u2 r2 => ?_
  refine vs_ok 1 ?_
  rw [show ((gRes 33).drop 14).take 1 = [.return_] from rfl]
  simp only [vs_return_, vs_nil, gv_0, gv_1, gv_2, gv_3, pv_0, pv_1, va_rf_s, Nat.reduceDiv, Nat.reduceMod, Nat.reduceAdd, Nat.reduceMul, Int.reduceToNat, true_and, and_true, and_self, cP_eq, cP_ne, cP_lt, cP_ge, cP_gt, cP_le, eL_i, eL_l, eL_r, eL_n, Option.toList_none, Option.toList_some, List.nil_append, List.cons_append]
  refine ⟨by decide, hq _ w2 ⟨o2.1, by have := o2.2.1; exact this, fun i p hp => ?_⟩ z2 u2 n2⟩
  have e := o2.2.2
  match i, hp with
  | 0, hp => cases hp; exact e 0 (0, 14, 12) rfl
  | 1, hp => cases hp; exact e 1 (1, 14, 12) rfl
  | 2, hp => cases hp; exact e 2 (2, 14, 12) rfl
/-- WordSearch's -/
theorem t_WordSearch_init {d : Nat} {h : Hp} {x : Nat} {Q : Nat → Option Value → Hp → Prop} (h1 : zK h x = 10) (h2 : zN h = x + 1) (h3 : x + 12 ≤ zSC) (hI : zI h x = fun _ => 0)
    (hq : ∀ h', gw (fun q => q = x) 11 (48 + (gN 9 + 356)) h h' → wsO h' x → zI h' x = (fun _ => 0) → Q 0 none h') : PR (d + 1) m_WordSearch_init [.ref x] h Q := by
  show PW (d + 1) 123 0 [some (.ref x)] [] h Q
  refine vs_ok 2 ?_
  rw [show ((gRes 123).drop 0).take 2 = [.aload 0, .invokedynamic 4] from rfl]
  simp only [vs_aload0, vs_nil, gv_0, gv_1, gv_2, gv_3, pv_0, pv_1, va_rf_s, vs_abs, vs_max, vs_min, vs_oinit, Nat.reduceDiv, Nat.reduceMod, Nat.reduceAdd, Nat.reduceMul, Int.reduceToNat, true_and, and_true, and_self, cP_eq, cP_ne, cP_lt, cP_ge, cP_gt, cP_le, eL_i, eL_l, eL_r, eL_n, Option.toList_none, Option.toList_some, List.nil_append, List.cons_append]
  refine ⟨le_b rfl, ?_⟩
  refine PW.arn rfl rfl (by decide) (objA0 h1 h2) h2 (by rw [h2]; show x + 1 + 0 < zSC; omega) (by decide) (by decide) (gw.of_fr fr.rf) rfl (by omega) rfl fun g0 w0 z0 o0 n0 => ?_
  refine PW.arn rfl rfl (by decide) (o0) n0 (by rw [n0]; show x + 1 + 1 < zSC; omega) (by decide) (by decide) w0 z0 (by omega) rfl fun g1 w1 z1 o1 n1 => ?_
  refine PW.arn rfl rfl (by decide) (o1) n1 (by rw [n1]; show x + 1 + 2 < zSC; omega) (by decide) (by decide) w1 z1 (by omega) rfl fun g2 w2 z2 o2 n2 => ?_
  refine PW.arn rfl rfl (by decide) (o2) n2 (by rw [n2]; show x + 1 + 3 < zSC; omega) (by decide) (by decide) w2 z2 (by omega) rfl fun g3 w3 z3 o3 n3 => ?_
  refine PW.arn rfl rfl (by decide) (o3) n3 (by rw [n3]; show x + 1 + 4 < zSC; omega) (by decide) (by decide) w3 z3 (by omega) rfl fun g4 w4 z4 o4 n4 => ?_
  have n4' : zN g4 = x + 6 := n4
  refine PW.nobj (cc := 5) (ss := 356) (P := fun g => objA g (x + 6) 9 wcL) rfl rfl rfl rfl rfl rfl (by decide) rfl (by decide) o4.1 (by omega) (by omega) (fun g Q' a b c e f => by
    rw [n4'] at a b c e f ⊢
    exact t_WordCount_init a b (by omega) fun g2 w2 i2 o2 n2 => f g2 w2 o2) fun g5 g6 w6 f6 p6 i6 j6 r6 => ?_
  refine vs_ok 1 ?_
  rw [show ((gRes 123).drop 27).take 1 = [.return_] from rfl]
  simp only [vs_return_, vs_nil, gv_0, gv_1, gv_2, gv_3, pv_0, pv_1, va_rf_s, Nat.reduceDiv, Nat.reduceMod, Nat.reduceAdd, Nat.reduceMul, Int.reduceToNat, true_and, and_true, and_self, cP_eq, cP_ne, cP_lt, cP_ge, cP_gt, cP_le, eL_i, eL_l, eL_r, eL_n, Option.toList_none, Option.toList_some, List.nil_append, List.cons_append]
  refine ⟨by decide, hq g6 (w4.tr (w6.wk fun q _ z => Or.inl z)) ⟨⟨by rw [w6.2.2.2.1 x (by omega)]; exact o4.1, by rw [w6.1]; show x + 5 < _; omega, fun i p hp => ?_⟩, by rw [r6, if_pos rfl, n4'], ?_⟩ (by rw [i6, z4, hI])⟩
  · have li : i < 5 := (List.getElem?_eq_some_iff.mp hp).1
    obtain ⟨e1, e2, e3⟩ := o4.2.2 i p hp
    rw [r6, if_neg (by omega), w6.2.2.2.1 _ (by omega), w6.2.2.2.2.1 _ (by omega)]
    exact ⟨e1, e2, e3⟩
  · obtain ⟨a1, a2, a3⟩ := p6
    refine ⟨by rw [f6.1]; exact a1, by rw [f6.2.2.1]; exact a2, fun i p hp => ?_⟩
    rw [f6.2.2.2.2.2.2.2 _ (by omega), f6.1, f6.2.1]
    exact a3 i p hp
/-- FaceSearch's -/
theorem t_FaceSearch_init {d : Nat} {h : Hp} {x : Nat} {Q : Nat → Option Value → Hp → Prop} (h1 : zK h x = 1) (h2 : zN h = x + 1) (h3 : x + 9 ≤ zSC) (hI : zI h x = fun _ => 0) (hJ : zJ h x = fun _ => 0)
    (hq : ∀ h', gw (fun q => q = x) 8 (gN 4 + 6700 + 122 + 61 + 61 + 61) h h' → fsO h' x → zI h' x = (fun _ => 0) → zer h' x → Q 0 none h') : PR (d + 1) m_FaceSearch_init [.ref x] h Q := by
  show PW (d + 1) 13 0 [some (.ref x)] [] h Q
  refine vs_ok 2 ?_
  rw [show ((gRes 13).drop 0).take 2 = [.aload 0, .invokedynamic 4] from rfl]
  simp only [vs_aload0, vs_nil, gv_0, gv_1, gv_2, gv_3, pv_0, pv_1, va_rf_s, vs_abs, vs_max, vs_min, vs_oinit, Nat.reduceDiv, Nat.reduceMod, Nat.reduceAdd, Nat.reduceMul, Int.reduceToNat, true_and, and_true, and_self, cP_eq, cP_ne, cP_lt, cP_ge, cP_gt, cP_le, eL_i, eL_l, eL_r, eL_n, Option.toList_none, Option.toList_some, List.nil_append, List.cons_append]
  refine ⟨le_b rfl, ?_⟩
  refine PW.nobj (cc := 3) (ss := 6700) (P := fun g => objA g (x + 1) 4 paL ∧ zer g x ∧ zN g = x + 5) rfl rfl rfl rfl rfl rfl (by decide) rfl (by decide) h1 (by omega) (by omega) (fun g Q' a b c e f => by
    rw [h2] at a b c e f ⊢
    exact t_Pairs_init0 a b (by omega) fun g2 w2 o2 i2 j2 u2 n2 => f g2 w2 ⟨o2, fun q q1 q2 => by
      by_cases y : q = x + 1
      · rw [y, i2, j2]
        exact ⟨c, e⟩
      · exact u2 q (by omega) q2, n2⟩) fun g5 g6 w6 f6 p6 i6 j6 r6 => ?_
  obtain ⟨a1, a2, a3⟩ := p6
  have n6 : zN g6 = x + 5 := by rw [f6.2.2.1, a3]
  have u6 : zer g6 x := fun q q1 q2 => by
    rw [f6.2.2.2.2.2.1 q (by omega), f6.2.2.2.2.2.2.1 q (by omega)]
    exact a2 q q1 (by rw [a3]; omega)
  have p6 : objA g6 (x + 1) 4 paL := ⟨by rw [f6.1]; exact a1.1, by rw [f6.2.2.1]; exact a1.2.1, fun i p hp => by
    rw [f6.2.2.2.2.2.2.2 _ (by omega), f6.1, f6.2.1]
    exact a1.2.2 i p hp⟩
  have r60 : zR g6 x 0 = some (x + 1) := by rw [r6, if_pos rfl, h2]
  refine PW.arm rfl rfl rfl rfl (by decide) (objM0 (by rw [w6.2.2.2.1 x (by omega)]; exact h1) n6) n6 (by omega) (by rw [n6]; show x + 5 + 0 < zSC; omega) (by decide) (by decide) (gw.of_fr fr.rf) rfl rfl (by omega) u6 rfl fun g0 w0 z0 y0 o0 n0 u0 r0 => ?_
  refine PW.arm rfl rfl rfl rfl (by decide) o0 n0 (by omega) (by rw [n0]; show x + 5 + 1 < zSC; omega) (by decide) (by decide) w0 z0 y0 (by omega) u0 rfl fun g1 w1 z1 y1 o1 n1 u1 r1 => ?_
  refine PW.arm rfl rfl rfl rfl (by decide) o1 n1 (by omega) (by rw [n1]; show x + 5 + 2 < zSC; omega) (by decide) (by decide) w1 z1 y1 (by omega) u1 rfl fun g2 w2 z2 y2 o2 n2 u2 r2 => ?_
  refine PW.arm rfl rfl rfl rfl (by decide) o2 n2 (by omega) (by rw [n2]; show x + 5 + 3 < zSC; omega) (by decide) (by decide) w2 z2 y2 (by omega) u2 rfl fun g3 w3 z3 y3 o3 n3 u3 r3 => ?_
  refine vs_ok 1 ?_
  rw [show ((gRes 13).drop 23).take 1 = [.return_] from rfl]
  simp only [vs_return_, vs_nil, gv_0, gv_1, gv_2, gv_3, pv_0, pv_1, va_rf_s, Nat.reduceDiv, Nat.reduceMod, Nat.reduceAdd, Nat.reduceMul, Int.reduceToNat, true_and, and_true, and_self, cP_eq, cP_ne, cP_lt, cP_ge, cP_gt, cP_le, eL_i, eL_l, eL_r, eL_n, Option.toList_none, Option.toList_some, List.nil_append, List.cons_append]
  have e := o3.2.2
  have N3 : x + 8 < zN g3 := by rw [n3]; show x + 8 < x + 5 + 4; omega
  refine ⟨by decide, hq _ (w6.tr (w3.wk fun q _ z => Or.inl z)) ⟨⟨o3.1, by omega, by rw [r3 0 (by omega), r2 0 (by omega), r1 0 (by omega), r0 0 (by omega)]; exact r60⟩, ?_, ?_, ?_, ?_, ?_⟩ (by rw [z3, i6, hI]) u3⟩
  · obtain ⟨e1, e2, e3⟩ := e 0 (1, 14, 122) rfl
    exact ⟨e1, e2, by omega, e3⟩
  · obtain ⟨e1, e2, e3⟩ := e 1 (2, 14, 61) rfl
    exact ⟨e1, e2, by omega, e3⟩
  · obtain ⟨e1, e2, e3⟩ := e 2 (3, 14, 61) rfl
    exact ⟨e1, e2, by omega, e3⟩
  · obtain ⟨e1, e2, e3⟩ := e 3 (4, 14, 61) rfl
    exact ⟨e1, e2, by omega, e3⟩
  · exact p6.gk w3 (by omega)
