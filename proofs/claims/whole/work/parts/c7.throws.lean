/-! pairs of calls that may throw -/
/-- DiceRing's call answers or throws; the Model's then tells the same -/
def prX (P : Value → Prop) (kD kM : Nat) (a b : List Value) (h : Hp) (x m o : Nat) : Prop := ∃ r : Option Value, (∀ Q1 : Nat → Option Value → Hp → Prop, (r = none → Q1 1 none (zThr h)) → (∀ v, r = some v → P v → Q1 0 (some v) h) → PR 138 kD a h Q1) ∧
  (r = none → ∀ Q2 : Nat → Option Value → Hp → Prop, (∀ g2 v2, szE (zThr h) g2 → zK g2 = zK h → INV g2 x m o → zI g2 m 0 = iI 1 → P v2 → Q2 0 (some v2) g2) → PR 139 kM b (zThr h) Q2) ∧
  ∀ v, r = some v → P v → ∀ (w : Int64) (Q2 : Nat → Option Value → Hp → Prop), (∀ g2, szE h g2 → zK g2 = zK h → INV g2 x m o → zI g2 m 0 = iI 0 → zJ g2 o 0 = w → zL g2 o = 1 → Q2 0 (some v) g2) → PR 139 kM b (zsJ h o 0 w) Q2
section PRX
variable {x m o : Nat} {h g : Hp}
theorem INV.out {w : Int64} (hm : m = x + 161) (ho : o = x + 197) (I : INV h x m o) : INV (zsJ h o 0 w) x m o := by
  obtain ⟨cA, cS, cT, cN, cF, cR, cP, cO, cG, cK, cL⟩ := I
  have F1 : fx x (fun q => q = o) h (zsJ h o 0 w) := fx.of (fi_J rfl)
  generalize zsJ h o 0 w = g at *
  exact ⟨iA.keep cA hm F1 (by rw [F1.1.2.2.2.2.2.1 m (by omega)]), iS.keep cS F1 (fun q z => by omega), iT.keep cT F1 (fun q z => by omega) (by rw [F1.1.2.2.2.2.2.1 x (by omega)]) (by rw [F1.1.2.2.2.2.2.1 m (by omega)]), jN.keep cN hm F1 (fun q z => by omega) (by rw [F1.1.2.2.2.2.2.2.2 x (by omega)]) (by rw [F1.1.2.2.2.2.2.1 x (by omega)]) (by rw [F1.1.2.2.2.2.2.1 (x + 117) (by omega)]), iF.keep cF (by rw [F1.1.2.2.2.2.2.1 x (by omega)]) (by rw [F1.1.2.2.2.2.2.1 m (by omega)]), iR.keep cR F1 (fun q z => by omega) (by rw [F1.1.2.2.2.2.2.1 (x + 117) (by omega)]) (by rw [F1.1.2.2.2.2.2.1 m (by omega)]), iP.keep cP F1 (fun q z => by omega), iO.keep cO F1 (fun q z => by omega) (by rw [F1.1.2.2.2.2.2.1 m (by omega)]) (by rw [F1.1.2.2.2.2.2.1 m (by omega)]) (by rw [F1.1.2.2.2.2.2.1 m (by omega)]), iG.keep cG F1 (fun q z => by omega) (by rw [F1.1.2.2.2.2.2.1 m (by omega)]) (by rw [F1.1.2.2.2.2.2.1 m (by omega)]), iK.keep cK F1 (fun q z => by omega) (by rw [F1.1.2.2.2.2.2.1 (x + 141) (by omega)]) (by rw [F1.1.2.2.2.2.2.1 m (by omega)]), iL.keep cL F1 (fun q z => by omega)⟩
theorem INV.thr (I : INV h x m o) : INV (zThr h) x m o := I
/-- the same, out of the two theorems' ends -/
theorem prX.ok {P : Value → Prop} {kD kM : Nat} {a b : List Value} {v : Value} (hm : m = x + 161) (ho : o = x + 197) (I : INV h x m o) (pv : P v) (hD : ∀ Q1 : Nat → Option Value → Hp → Prop, Q1 0 (some v) h → PR 138 kD a h Q1)
    (hM : ∀ g, fx x (fun q => q = o) h g → INV g x m o → ∀ Q2 : Nat → Option Value → Hp → Prop, (∀ g2, mt0 g g2 m 0 → Q2 0 (some v) g2) → PR 139 kM b g Q2) : prX P kD kM a b h x m o := by
  refine ⟨some v, fun Q1 _ q => hD Q1 (q v rfl pv), (fun z => by cases z), fun v2 ev _ w Q2 hq => ?_⟩
  cases ev
  have F1 : fx x (fun q => q = o) h (zsJ h o 0 w) := fx.of (fi_J rfl)
  have I1 : INV (zsJ h o 0 w) x m o := I.out hm ho
  refine hM _ F1 I1 Q2 fun g2 z => ?_
  have R := I1.mt hm z
  have e0 : zJ (zsJ h o 0 w) o 0 = w := by
    show (if o = o ∧ 0 = 0 then w else zJ h o 0) = w
    rw [if_pos ⟨rfl, rfl⟩]
  exact hq g2 R.1 z.1.1.1 R.2 z.2.2 (by rw [z.1.1.2.2.2.2.2.2.1 o (by omega)]; exact e0) (by rw [z.1.1.2.1]; exact I.1.2.2.2.2.1)
theorem prX.no {P : Value → Prop} {kD kM : Nat} {a b : List Value} (hm : m = x + 161) (I : INV h x m o) (hD : ∀ Q1 : Nat → Option Value → Hp → Prop, Q1 1 none (zThr h) → PR 138 kD a h Q1)
    (hM : ∀ Q2 : Nat → Option Value → Hp → Prop, (∀ g2 v2, P v2 → mt0 (zThr h) g2 m 1 → Q2 0 (some v2) g2) → PR 139 kM b (zThr h) Q2) : prX P kD kM a b h x m o := by
  refine ⟨none, fun Q1 q _ => hD Q1 (q rfl), fun _ Q2 hq => ?_, fun v2 ev => by cases ev⟩
  refine hM Q2 fun g2 v2 pv z => ?_
  have R := I.thr.mt hm z
  exact hq g2 v2 R.1 z.1.1.1 R.2 z.2.2 pv
theorem p_about {k w : Int} (hk : i32 k) (hw : i32 w) (hm : m = x + 161) (ho : o = x + 197) (I : INV h x m o) : prX iV m_D_about m_M_about [.ref x, .int (iI k), .int (iI w)] [.ref m, .int (iI k), .int (iI w)] h x m o := by
  obtain ⟨cA, cS, ⟨len, B, tD, tM⟩, ⟨nm, F, V, fl, ⟨t, to, nm0, va, st, tm, F0, Wd0, V0, Wd, c1, c2, c3, c4, c5, c6⟩, nw, mN, fN, nN⟩, cF, cR, cP, cO, cG, cK, cL⟩ := id I
  by_cases c : (0 ≤ k ∧ k < nm) ∧ 0 ≤ w ∧ w ≤ 2
  · refine prX.ok (v := .int (iI (if w = 0 then F k.toNat else if w = 1 then (V k.toNat).1 else (V k.toNat).2.1))) hm ho I ⟨_, rfl⟩ (fun Q1 q => ?_) fun g F1 I1 Q2 q => ?_
    · exact t_about (d := 136) tD c1 c4 c5 hk hw (fun z => absurd c z) fun _ _ => q
    · have n1 := mNk ⟨mN, fN, nN⟩ F1 (fun q z => by omega)
      exact t_M_about (d := 137) I1.1.2.1 n1.1 hk hw (fun z => absurd c z) fun _ _ g z => q g z
  · refine prX.no hm I (fun Q1 q => ?_) fun Q2 q => ?_
    · exact t_about (d := 136) tD c1 c4 c5 hk hw (fun _ => q) fun z1 z2 => absurd ⟨z1, z2⟩ c
    · exact t_M_about (d := 137) I.thr.1.2.1 (show mnS (zThr h) m nm F V from mN) hk hw (fun _ g z => q g _ ⟨_, rfl⟩ z) fun z1 z2 => absurd ⟨z1, z2⟩ c
theorem p_mean {k w : Int} (hk : i32 k) (hw : i32 w) (hm : m = x + 161) (ho : o = x + 197) (I : INV h x m o) : prX lV m_D_mean m_M_mean [.ref x, .int (iI k), .int (iI w)] [.ref m, .int (iI k), .int (iI w)] h x m o := by
  obtain ⟨cA, cS, ⟨len, B, tD, tM⟩, ⟨nm, F, V, fl, ⟨t, to, nm0, va, st, tm, F0, Wd0, V0, Wd, c1, c2, c3, c4, c5, c6⟩, nw, mN, fN, nN⟩, cF, cR, cP, cO, cG, cK, cL⟩ := id I
  by_cases c : (0 ≤ k ∧ k < nm) ∧ (0 ≤ w ∧ w ≤ 3) ∧ (1 < w → (V k.toNat).2.2.1 ≤ 1000000)
  · refine prX.ok (v := .long (lI (mnA (V k.toNat) w))) hm ho I ⟨_, rfl⟩ (fun Q1 q => ?_) fun g F1 I1 Q2 q => ?_
    · exact t_mean (d := 135) tD c1 c4 c5 (nm_g mN) hk hw (fun z => absurd c z) fun _ _ _ => q
    · have n1 := mNk ⟨mN, fN, nN⟩ F1 (fun q z => by omega)
      exact t_M_mean (d := 137) I1.1.2.1 n1.1 hk hw (fun z => absurd c z) fun _ _ _ g z => q g z
  · refine prX.no hm I (fun Q1 q => ?_) fun Q2 q => ?_
    · exact t_mean (d := 135) tD c1 c4 c5 (nm_g mN) hk hw (fun _ => q) fun z1 z2 z3 => absurd ⟨z1, z2, z3⟩ c
    · exact t_M_mean (d := 137) I.thr.1.2.1 (show mnS (zThr h) m nm F V from mN) hk hw (fun _ g z => q g _ ⟨_, rfl⟩ z) fun z1 z2 z3 => absurd ⟨z1, z2, z3⟩ c
theorem p_shift {a b : Int} (ha : i32 a) (hb : i32 b) (hm : m = x + 161) (ho : o = x + 197) (I : INV h x m o) : prX iV m_D_shift m_M_shift [.ref x, .int (iI a), .int (iI b)] [.ref m, .int (iI a), .int (iI b)] h x m o := by
  obtain ⟨cA, cS, ⟨len, B, tD, tM⟩, ⟨nm, F, V, fl, ⟨t, to, nm0, va, st, tm, F0, Wd0, V0, Wd, c1, c2, c3, c4, c5, c6⟩, nw, mN, fN, nN⟩, cF, cR, cP, cO, cG, cK, cL⟩ := id I
  by_cases c : (0 ≤ a ∧ a < nm) ∧ 0 ≤ b ∧ b < nm
  · by_cases s : shP (V a.toNat) (V b.toNat)
    · refine prX.ok (v := .int (iI ((V b.toNat).1 - (V a.toNat).1))) hm ho I ⟨_, rfl⟩ (fun Q1 q => ?_) fun g F1 I1 Q2 q => ?_
      · exact t_shift (d := 136) cA.1.N c1 c4 c5 (nm_g mN) ha hb (fun z => absurd c z) (fun _ _ => q) fun _ z => absurd s z
      · have n1 := mNk ⟨mN, fN, nN⟩ F1 (fun q z => by omega)
        exact t_M_shift (d := 137) I1.1.2.1 n1.1 ha hb (fun z => absurd c z) (fun _ _ g z => q g z) fun _ z => absurd s z
    · refine prX.ok (v := .int (iI 1000)) hm ho I ⟨_, rfl⟩ (fun Q1 q => ?_) fun g F1 I1 Q2 q => ?_
      · exact t_shift (d := 136) cA.1.N c1 c4 c5 (nm_g mN) ha hb (fun z => absurd c z) (fun _ z => absurd z s) fun _ _ => q
      · have n1 := mNk ⟨mN, fN, nN⟩ F1 (fun q z => by omega)
        exact t_M_shift (d := 137) I1.1.2.1 n1.1 ha hb (fun z => absurd c z) (fun _ z => absurd z s) fun _ _ g z => q g z
  · refine prX.no hm I (fun Q1 q => ?_) fun Q2 q => ?_
    · exact t_shift (d := 136) cA.1.N c1 c4 c5 (nm_g mN) ha hb (fun _ => q) (fun z => absurd z c) fun z => absurd z c
    · exact t_M_shift (d := 137) I.thr.1.2.1 (show mnS (zThr h) m nm F V from mN) ha hb (fun _ g z => q g _ ⟨_, rfl⟩ z) (fun z => absurd z c) fun z => absurd z c
theorem p_otherAt {k w i : Int} (hk : i32 k) (hw : i32 w) (hi : i32 i) (hm : m = x + 161) (ho : o = x + 197) (I : INV h x m o) : prX iV m_D_otherAt m_M_otherAt [.ref x, .int (iI k), .int (iI w), .int (iI i)] [.ref m, .int (iI k), .int (iI w), .int (iI i)] h x m o := by
  obtain ⟨cA, cS, cT, cN, cF, cR, cP, ⟨p, qq, K, X, Y, pk, tr, ot, fc⟩, cG, cK, cL⟩ := id I
  have o1 := cA.1.2.2.2.2.1.1
  have o6 : objA h (x + 127) 4 paL := cA.1.2.2.2.2.1.2.2.2.2.2
  have hs : ∀ k, k < K.1 → zI h (x + 127 + 3) k = iI (K.2.2.1 k) ∧ 65 * K.2.2.1 k + p + qq ≤ 6500 := fun k hk => ⟨(pk.2.2.1 k (by have := pk.1.2.1; omega)).2, (fc k hk).1⟩
  have hv : ∀ k w i, k < K.1 → (w = 0 ∧ i < p ∨ w = 1 ∧ i < qq) → zI h (x + 127 + 1) (65 * K.2.2.1 k + (if w = 0 then 0 else p) + i) = iI (K.2.2.2.1 (65 * K.2.2.1 k + (if w = 0 then 0 else p) + i)) := fun k w i hk hw => pk.2.2.2.1 _ (by
    have := (fc k hk).1
    rcases hw with ⟨hw, hi⟩ | ⟨hw, hi⟩
    · rw [if_pos hw]; omega
    · rw [if_neg (by omega)]; omega)
  have hb : K.1 ≤ 100 ∧ p ≤ 64 ∧ qq ≤ 64 := ⟨pk.1.2.1, ot.2.2.2.2.1, ot.2.2.2.2.2.1⟩
  by_cases c : (0 ≤ k ∧ k < K.1) ∧ 0 ≤ i ∧ (w = 0 ∧ i < p ∨ w = 1 ∧ i < qq)
  · have ev : K.2.2.2.1 (65 * K.2.2.1 k.toNat + (if w.toNat = 0 then 0 else p) + i.toNat) = ((vaF (if w = 0 then X k.toNat else Y k.toNat) 61 i.toNat 0 : Nat) : Int) := by
      have f := fc k.toNat (by omega)
      rcases c.2.2 with ⟨h1, h2⟩ | ⟨h1, h2⟩
      · rw [if_pos (show w.toNat = 0 by omega), if_pos h1, Nat.add_zero]
        exact f.2.1 _ (by omega)
      · rw [if_neg (show ¬ w.toNat = 0 by omega), if_neg (show ¬ w = 0 by omega)]
        exact f.2.2 _ (by omega)
    refine prX.ok (v := .int (iI ((vaF (if w = 0 then X k.toNat else Y k.toNat) 61 i.toNat 0 : Nat) : Int))) hm ho I ⟨_, rfl⟩ (fun Q1 q => ?_) fun g F1 I1 Q2 q => ?_
    · refine t_otherAt (d := 137) (fv := fun k w i => K.2.2.2.1 (65 * K.2.2.1 k + (if w = 0 then 0 else p) + i)) cA.1.N cA.1.2.1.2.2.2.2.1 o1 o6 pk.1.1 pk.1.2.2.1 pk.1.2.2.2 hb hk hw hi hs hv (fun z => absurd c z) fun _ => ?_
      rw [ev]
      exact q
    · have ot1 : otS g m K.1 p qq X Y := by
        have e : zI g m = zI h m := F1.1.2.2.2.2.2.1 m (by omega)
        rw [otS, e, F1.1.2.2.2.2.2.1 (m + 25) (by omega), F1.1.2.2.2.2.2.1 (m + 26) (by omega)]
        exact ot
      exact t_M_otherAt (d := 137) I1.1.2.1 ot1 hk hw hi (fun z => absurd c z) fun _ g z => q g z
  · refine prX.no hm I (fun Q1 q => ?_) fun Q2 q => ?_
    · exact t_otherAt (d := 137) (fv := fun k w i => K.2.2.2.1 (65 * K.2.2.1 k + (if w = 0 then 0 else p) + i)) cA.1.N cA.1.2.1.2.2.2.2.1 o1 o6 pk.1.1 pk.1.2.2.1 pk.1.2.2.2 hb hk hw hi hs hv (fun _ => q) fun z => absurd z c
    · exact t_M_otherAt (d := 137) I.thr.1.2.1 (show otS (zThr h) m K.1 p qq X Y from ot) hk hw hi (fun _ g z => q g _ ⟨_, rfl⟩ z) fun z => absurd z c
end PRX
