/-! pairs of calls: words, the table -/
section PRW
variable {x m o : Nat} {h g : Hp}
theorem mx_12 {n f : Nat} (hn : 2 ≤ n ∧ n ≤ 4) (hf : f ≤ mxF n) : n * f ≤ 12 := by
  unfold mxF at hf
  by_cases c2 : n = 2
  · subst c2
    rw [if_pos rfl] at hf
    omega
  · rw [if_neg c2] at hf
    by_cases c3 : n = 3
    · subst c3
      rw [if_pos rfl] at hf
      omega
    · rw [if_neg c3] at hf
      have c4 : n = 4 := by omega
      subst c4
      omega
theorem fw_12 {n f b : Int} (w : fwP n f b) : n.toNat * f.toNat ≤ 12 := by
  obtain ⟨⟨a1, a2⟩, ⟨b1, b2⟩, -, c⟩ := w
  have z1 : (n.toNat : Int) = n := by omega
  have z2 : (f.toNat : Int) = f := by omega
  have : ((n.toNat * f.toNat : Nat) : Int) ≤ 12 := by
    rw [Int.natCast_mul, z1, z2]
    exact c
  omega
theorem wdP.fx {S : Nat → Prop} {r : List Nat} (c : wdP h (x + 141) r) (f : fx x S h g) (hs : ∀ q, S q → q ≠ x + 141 ∧ q ≠ x + 142) : wdP g (x + 141) r := by
  rw [wdP, f.1.2.2.2.2.2.1 (x + 141) (fun z => (hs _ z).1 rfl), f.1.2.2.2.2.2.1 (x + 141 + 1) (fun z => (hs _ z).2 rfl)]
  exact c
theorem p_firstWord {n f b : Int} (hn : i32 n) (hf : i32 f) (hb : i32 b) (hm : m = x + 161) (I : INV h x m o) : pr2 iV m_D_firstWord m_M_firstWord [.ref x, .int (iI n), .int (iI f), .int (iI b)] [.ref m, .int (iI n), .int (iI f), .int (iI b)] h x m o := fun Q1 hq => by
  obtain ⟨cA, cS, cT, cN, cF, cR, cP, cO, cG, cK, cL⟩ := id I
  refine t_firstWord (d := 117) cA.1.N cA.1.2.1.2.2.2.2.2.2.1 cA.1.2.2.2.2.2.2 hn hf hb (fun w => ?_) (fun w r cf er rl g1 f1 wd => ?_) fun w cc g1 f1 e6 e1 => ?_
  · refine hq h _ ⟨_, rfl⟩ ⟨rfl, rfl, rfl⟩ rfl fun Q2 hq2 => ?_
    refine t_M_firstWord (D := 135) cA.2.1 hn hf hb (fun _ g z => ?_) (fun w2 => absurd w2 w) fun w2 => absurd w2 w
    exact hq2 g (I.mt hm z).1 (I.mt hm z).2
  · have F1 : fx x (fun q => x + 141 ≤ q ∧ q ≤ x + 152) h g1 := (fx.of (x := x) f1).wk fun q z => ⟨z.1, by have := z.2; omega⟩
    have aA : iA g1 x m o := iA.keep cA hm F1 (by rw [F1.1.2.2.2.2.2.1 m (by omega)])
    have aS : thS g1 x := iS.keep cS F1 (fun q z => by omega)
    have aT : iT g1 x m := iT.keep cT F1 (fun q z => by omega) (by rw [F1.1.2.2.2.2.2.1 x (by omega)]) (by rw [F1.1.2.2.2.2.2.1 m (by omega)])
    have aN : jN g1 x m := jN.keep cN hm F1 (fun q z => by omega) (by rw [F1.1.2.2.2.2.2.2.2 x (by omega)]) (by rw [F1.1.2.2.2.2.2.1 x (by omega)]) (by rw [F1.1.2.2.2.2.2.1 (x + 117) (by omega)])
    have aF : iF g1 x m := iF.keep cF (by rw [F1.1.2.2.2.2.2.1 x (by omega)]) (by rw [F1.1.2.2.2.2.2.1 m (by omega)])
    have aR : iR g1 x m := iR.keep cR F1 (fun q z => by omega) (by rw [F1.1.2.2.2.2.2.1 (x + 117) (by omega)]) (by rw [F1.1.2.2.2.2.2.1 m (by omega)])
    have aP : iP g1 x m := iP.keep cP F1 (fun q z => by omega)
    have aO : iO g1 x m := iO.keep cO F1 (fun q z => by omega) (by rw [F1.1.2.2.2.2.2.1 m (by omega)]) (by rw [F1.1.2.2.2.2.2.1 m (by omega)]) (by rw [F1.1.2.2.2.2.2.1 m (by omega)])
    have aG : iG g1 x m := iG.keep cG F1 (fun q z => by omega) (by rw [F1.1.2.2.2.2.2.1 m (by omega)]) (by rw [F1.1.2.2.2.2.2.1 m (by omega)])
    have aL : iL g1 x m := iL.keep cL F1 (fun q z => by omega)
    have n24 : 2 ≤ n.toNat ∧ n.toNat ≤ 4 := by omega
    have q8 : b.toNat < 8 := by omega
    obtain ⟨v, rv, pv, gv, lv⟩ := fair_some n24 q8 er
    refine hq g1 _ ⟨_, rfl⟩ F1.sz F1.1.1 fun Q2 hq2 => ?_
    refine t_M_firstWord (D := 135) aA.2.1 hn hf hb (fun w2 => absurd w w2) (fun _ u _ pu gu lu g f2 em _ e56 us => ?_) fun _ c2 => ?_
    · have uq := lx_uniq (G := fun w => gdM n.toNat (n.toNat * f.toNat) b.toNat w) pv pu gv gu lv lu
      have F2 : fx x (fun q => q = m ∨ q = m + 27 ∨ q = m + 29 ∨ q = m + 30 ∨ q = m + 33) g1 g := fx.of f2
      rw [rv] at wd
      have wd2 : wdP g (x + 141) (lstW v (n.toNat * f.toNat)) := wd.fx F2 (fun q z => by omega)
      have L12 := fw_12 w
      refine hq2 g F2.sz ?_
      exact ⟨iA.keep aA hm F2 (em 7 (by omega) (by omega) (by omega)), iS.keep aS F2 (fun q z => by omega), iT.keep aT F2 (fun q z => by omega) (by rw [F2.1.2.2.2.2.2.1 x (by omega)]) (em 2 (by omega) (by omega) (by omega)), jN.keep aN hm F2 (fun q z => by omega) (by rw [F2.1.2.2.2.2.2.2.2 x (by omega)]) (by rw [F2.1.2.2.2.2.2.1 x (by omega)]) (by rw [F2.1.2.2.2.2.2.1 (x + 117) (by omega)]), iF.keep aF (by rw [F2.1.2.2.2.2.2.1 x (by omega)]) (em 21 (by omega) (by omega) (by omega)), iR.keep aR F2 (fun q z => by omega) (by rw [F2.1.2.2.2.2.2.1 (x + 117) (by omega)]) (em 28 (by omega) (by omega) (by omega)), iP.keep aP F2 (fun q z => by omega), iO.keep aO F2 (fun q z => by omega) (em 39 (by omega) (by omega) (by omega)) (em 41 (by omega) (by omega) (by omega)) (em 42 (by omega) (by omega) (by omega)), iG.keep aG F2 (fun q z => by omega) (em 54 (by omega) (by omega) (by omega)) (em 55 (by omega) (by omega) (by omega)), ⟨_, v, L12, wd2, e56, fun i hi => by rw [us i hi, uq i hi]⟩, iL.keep aL F2 (fun q z => by omega)⟩
    · exfalso
      cases c2 with
      | inl c2 => exact c2 ((cf_eq n24 q8).mp cf)
      | inr c2 => exact c2 v pv gv
  · have F1 : fx x (fun q => x + 141 ≤ q ∧ q ≤ x + 152) h g1 := (fx.of (x := x) f1).wk fun q z => ⟨z.1, by have := z.2; omega⟩
    have aA : iA g1 x m o := iA.keep cA hm F1 (by rw [F1.1.2.2.2.2.2.1 m (by omega)])
    have aS : thS g1 x := iS.keep cS F1 (fun q z => by omega)
    have aT : iT g1 x m := iT.keep cT F1 (fun q z => by omega) (by rw [F1.1.2.2.2.2.2.1 x (by omega)]) (by rw [F1.1.2.2.2.2.2.1 m (by omega)])
    have aN : jN g1 x m := jN.keep cN hm F1 (fun q z => by omega) (by rw [F1.1.2.2.2.2.2.2.2 x (by omega)]) (by rw [F1.1.2.2.2.2.2.1 x (by omega)]) (by rw [F1.1.2.2.2.2.2.1 (x + 117) (by omega)])
    have aF : iF g1 x m := iF.keep cF (by rw [F1.1.2.2.2.2.2.1 x (by omega)]) (by rw [F1.1.2.2.2.2.2.1 m (by omega)])
    have aR : iR g1 x m := iR.keep cR F1 (fun q z => by omega) (by rw [F1.1.2.2.2.2.2.1 (x + 117) (by omega)]) (by rw [F1.1.2.2.2.2.2.1 m (by omega)])
    have aP : iP g1 x m := iP.keep cP F1 (fun q z => by omega)
    have aO : iO g1 x m := iO.keep cO F1 (fun q z => by omega) (by rw [F1.1.2.2.2.2.2.1 m (by omega)]) (by rw [F1.1.2.2.2.2.2.1 m (by omega)]) (by rw [F1.1.2.2.2.2.2.1 m (by omega)])
    have aG : iG g1 x m := iG.keep cG F1 (fun q z => by omega) (by rw [F1.1.2.2.2.2.2.1 m (by omega)]) (by rw [F1.1.2.2.2.2.2.1 m (by omega)])
    have aL : iL g1 x m := iL.keep cL F1 (fun q z => by omega)
    have n24 : 2 ≤ n.toNat ∧ n.toNat ≤ 4 := by omega
    have q8 : b.toNat < 8 := by omega
    have aK : iK g1 x m := by
      obtain ⟨L, w, k1, k2, k3, k4⟩ := cK
      refine ⟨L, w, k1, ?_, by rw [F1.1.2.2.2.2.2.1 m (by omega)]; exact k3, fun i hi => by rw [F1.1.2.2.2.2.2.1 (m + 29) (by omega)]; exact k4 i hi⟩
      rw [wdP, e6, e1]
      exact k2
    have I1 : INV g1 x m o := ⟨aA, aS, aT, aN, aF, aR, aP, aO, aG, aK, aL⟩
    refine hq g1 _ ⟨_, rfl⟩ F1.sz F1.1.1 fun Q2 hq2 => ?_
    refine t_M_firstWord (D := 135) aA.2.1 hn hf hb (fun w2 => absurd w w2) (fun _ u cu pu gu lu g f2 em _ e56 us => ?_) fun _ c2 g f2 em _ => ?_
    · exfalso
      cases cc with
      | inl c2 => exact c2 ((cf_eq n24 q8).mpr cu)
      | inr c2 => exact fair_none n24 q8 c2 u pu gu
    · have R := I1.ms hm f2 (fun q z => by omega) fun i hi => em i (by omega) (by omega)
      exact hq2 g R.1 R.2
theorem p_laid {n : Int} (hn : i32 n) (hm : m = x + 161) (I : INV h x m o) : pr2 iV m_D_laid m_M_laid [.ref x, .int (iI n)] [.ref m, .int (iI n)] h x m o := fun Q1 hq => by
  obtain ⟨cA, cS, cT, cN, cF, cR, cP, cO, cG, cK, cL⟩ := id I
  obtain ⟨len, B, tD, tM⟩ := id cT
  have hB := tD.2.2.2.2
  refine t_laid (d := 117) tD cA.1.2.1.2.2.2.2.2.2.1 cA.1.2.2.2.2.2.2 hn (fun w g1 f1 t1 ex => ?_) (fun w g1 f1 t1 ex f r nc hf1 hf2 mn er rl g2 f2 wd => ?_) fun w g1 f1 t1 ex cc g2 f2 e6 e1 => ?_
  · have F1 : fx x (fun q => q = x) h g1 := fx.of f1
    have aA : iA g1 x m o := iA.keep cA hm F1 (by rw [F1.1.2.2.2.2.2.1 m (by omega)])
    have aS : thS g1 x := iS.keep cS F1 (fun q z => by omega)
    have aN : jN g1 x m := jN.keep cN hm F1 (fun q z => by omega) (by rw [f1.2]) (ex 6 (by omega)) (by rw [F1.1.2.2.2.2.2.1 (x + 117) (by omega)])
    have aF : iF g1 x m := iF.keep cF (ex 4 (by omega)) (by rw [F1.1.2.2.2.2.2.1 m (by omega)])
    have aR : iR g1 x m := iR.keep cR F1 (fun q z => by omega) (by rw [F1.1.2.2.2.2.2.1 (x + 117) (by omega)]) (by rw [F1.1.2.2.2.2.2.1 m (by omega)])
    have aP : iP g1 x m := iP.keep cP F1 (fun q z => by omega)
    have aO : iO g1 x m := iO.keep cO F1 (fun q z => by omega) (by rw [F1.1.2.2.2.2.2.1 m (by omega)]) (by rw [F1.1.2.2.2.2.2.1 m (by omega)]) (by rw [F1.1.2.2.2.2.2.1 m (by omega)])
    have aG : iG g1 x m := iG.keep cG F1 (fun q z => by omega) (by rw [F1.1.2.2.2.2.2.1 m (by omega)]) (by rw [F1.1.2.2.2.2.2.1 m (by omega)])
    have aK : iK g1 x m := iK.keep cK F1 (fun q z => by omega) (by rw [F1.1.2.2.2.2.2.1 (x + 141) (by omega)]) (by rw [F1.1.2.2.2.2.2.1 m (by omega)])
    have aL : iL g1 x m := iL.keep cL F1 (fun q z => by omega)
    refine hq g1 _ ⟨_, rfl⟩ F1.sz F1.1.1 fun Q2 hq2 => ?_
    refine t_M_laid (D := 135) aA.2.1 (tM.fx F1 (fun q z => by omega) (by rw [F1.1.2.2.2.2.2.1 m (by omega)])) hn (fun _ g f2 t2 _ em => ?_) (fun w2 => absurd w2 w) fun w2 => absurd w2 w
    have F2 : fx x (fun q => q = m) g1 g := fx.of f2
    refine hq2 g F2.sz ?_
    exact ⟨iA.keep aA hm F2 (em 7 (by omega) (by omega) (by omega) (by omega)), iS.keep aS F2 (fun q z => by omega), ⟨_, _, t1.fx F2 (fun q z => by omega) (by rw [F2.1.2.2.2.2.2.1 x (by omega)]), t2⟩, jN.keep aN hm F2 (fun q z => by omega) (by rw [F2.1.2.2.2.2.2.2.2 x (by omega)]) (by rw [F2.1.2.2.2.2.2.1 x (by omega)]) (by rw [F2.1.2.2.2.2.2.1 (x + 117) (by omega)]), iF.keep aF (by rw [F2.1.2.2.2.2.2.1 x (by omega)]) (em 21 (by omega) (by omega) (by omega) (by omega)), iR.keep aR F2 (fun q z => by omega) (by rw [F2.1.2.2.2.2.2.1 (x + 117) (by omega)]) (em 28 (by omega) (by omega) (by omega) (by omega)), iP.keep aP F2 (fun q z => by omega), iO.keep aO F2 (fun q z => by omega) (em 39 (by omega) (by omega) (by omega) (by omega)) (em 41 (by omega) (by omega) (by omega) (by omega)) (em 42 (by omega) (by omega) (by omega) (by omega)), iG.keep aG F2 (fun q z => by omega) (em 54 (by omega) (by omega) (by omega) (by omega)) (em 55 (by omega) (by omega) (by omega) (by omega)), iK.keep aK F2 (fun q z => by omega) (by rw [F2.1.2.2.2.2.2.1 (x + 141) (by omega)]) (em 56 (by omega) (by omega) (by omega) (by omega)), iL.keep aL F2 (fun q z => by omega)⟩
  · have en : (n.toNat : Int) = n := by omega
    have n24 : 2 ≤ n.toNat ∧ n.toNat ≤ 4 := by omega
    have hp : ∀ i, i < len / 2 → laP B (n.toNat : Int) i := fun i hi => by
      rw [en]
      exact w.2.2.2 i hi
    obtain ⟨v, rv, pv, gv, lv⟩ := laid_some hB n24 hf1 hp er
    have F0 : fx x (fun q => x + 141 ≤ q ∧ q ≤ x + 152) g1 g2 := (fx.of (x := x) f2).wk fun q z => ⟨z.1, by have := z.2; omega⟩
    have F1 : fx x (fun q => q = x ∨ (x + 141 ≤ q ∧ q ≤ x + 152)) h g2 := ((fx.of (x := x) f1).wk fun q z => Or.inl z).tr (F0.wk fun q z => Or.inr z)
    have ex2 : ∀ i, i ≠ 1 → zI g2 x i = zI h x i := fun i hi => by rw [F0.1.2.2.2.2.2.1 x (by omega)]; exact ex i hi
    have rr2 : zR g2 = zR h := by rw [f2.2, f1.2]
    have t2 : tpS g2 x 0 B := t1.fx F0 (fun q z => by omega) (by rw [F0.1.2.2.2.2.2.1 x (by omega)])
    have aA : iA g2 x m o := iA.keep cA hm F1 (by rw [F1.1.2.2.2.2.2.1 m (by omega)])
    have aS : thS g2 x := iS.keep cS F1 (fun q z => by omega)
    have aN : jN g2 x m := jN.keep cN hm F1 (fun q z => by omega) (by rw [rr2]) (ex2 6 (by omega)) (by rw [F1.1.2.2.2.2.2.1 (x + 117) (by omega)])
    have aF : iF g2 x m := iF.keep cF (ex2 4 (by omega)) (by rw [F1.1.2.2.2.2.2.1 m (by omega)])
    have aR : iR g2 x m := iR.keep cR F1 (fun q z => by omega) (by rw [F1.1.2.2.2.2.2.1 (x + 117) (by omega)]) (by rw [F1.1.2.2.2.2.2.1 m (by omega)])
    have aP : iP g2 x m := iP.keep cP F1 (fun q z => by omega)
    have aO : iO g2 x m := iO.keep cO F1 (fun q z => by omega) (by rw [F1.1.2.2.2.2.2.1 m (by omega)]) (by rw [F1.1.2.2.2.2.2.1 m (by omega)]) (by rw [F1.1.2.2.2.2.2.1 m (by omega)])
    have aG : iG g2 x m := iG.keep cG F1 (fun q z => by omega) (by rw [F1.1.2.2.2.2.2.1 m (by omega)]) (by rw [F1.1.2.2.2.2.2.1 m (by omega)])
    have aL : iL g2 x m := iL.keep cL F1 (fun q z => by omega)
    refine hq g2 _ ⟨_, rfl⟩ F1.sz F1.1.1 fun Q2 hq2 => ?_
    refine t_M_laid (D := 135) aA.2.1 (tM.fx F1 (fun q z => by omega) (by rw [F1.1.2.2.2.2.2.1 m (by omega)])) hn (fun w2 => absurd w w2) (fun _ f' u b1 b2 mn' pu gu lu g f3 t3 _ em e56 us => ?_) fun _ c2 => absurd gv (c2 f hf1 hf2 v pv)
    have ef : f' = f := by
      by_cases k1 : f' < f
      · exact absurd gu (laid_none hB n24 hp (mn f' b1 k1) u pu)
      · by_cases k2 : f < f'
        · exact absurd gv (mn' f hf1 k2 v pv)
        · omega
    subst ef
    have uq := lx_uniq (G := fun w => laG B (len / 2) n.toNat f' w) pv pu gv gu lv lu
    have F3 : fx x (fun q => q = m ∨ q = m + 27 ∨ (m + 29 ≤ q ∧ q ≤ m + 32)) g2 g := fx.of f3
    rw [rv] at wd
    have wd2 : wdP g (x + 141) (lstW v (n.toNat * f')) := wd.fx F3 (fun q z => by omega)
    have L12 := mx_12 n24 hf2
    refine hq2 g F3.sz ?_
    exact ⟨iA.keep aA hm F3 (em 7 (by omega) (by omega) (by omega) (by omega) (by omega) (by omega)), iS.keep aS F3 (fun q z => by omega), ⟨_, _, t2.fx F3 (fun q z => by omega) (by rw [F3.1.2.2.2.2.2.1 x (by omega)]), t3⟩, jN.keep aN hm F3 (fun q z => by omega) (by rw [F3.1.2.2.2.2.2.2.2 x (by omega)]) (by rw [F3.1.2.2.2.2.2.1 x (by omega)]) (by rw [F3.1.2.2.2.2.2.1 (x + 117) (by omega)]), iF.keep aF (by rw [F3.1.2.2.2.2.2.1 x (by omega)]) (em 21 (by omega) (by omega) (by omega) (by omega) (by omega) (by omega)), iR.keep aR F3 (fun q z => by omega) (by rw [F3.1.2.2.2.2.2.1 (x + 117) (by omega)]) (em 28 (by omega) (by omega) (by omega) (by omega) (by omega) (by omega)), iP.keep aP F3 (fun q z => by omega), iO.keep aO F3 (fun q z => by omega) (em 39 (by omega) (by omega) (by omega) (by omega) (by omega) (by omega)) (em 41 (by omega) (by omega) (by omega) (by omega) (by omega) (by omega)) (em 42 (by omega) (by omega) (by omega) (by omega) (by omega) (by omega)), iG.keep aG F3 (fun q z => by omega) (em 54 (by omega) (by omega) (by omega) (by omega) (by omega) (by omega)) (em 55 (by omega) (by omega) (by omega) (by omega) (by omega) (by omega)), ⟨_, v, L12, wd2, e56, fun i hi => by rw [us i hi, uq i hi]⟩, iL.keep aL F3 (fun q z => by omega)⟩
  · have en : (n.toNat : Int) = n := by omega
    have n24 : 2 ≤ n.toNat ∧ n.toNat ≤ 4 := by omega
    have hp : ∀ i, i < len / 2 → laP B (n.toNat : Int) i := fun i hi => by
      rw [en]
      exact w.2.2.2 i hi
    have F0 : fx x (fun q => x + 141 ≤ q ∧ q ≤ x + 152) g1 g2 := (fx.of (x := x) f2).wk fun q z => ⟨z.1, by have := z.2; omega⟩
    have F1 : fx x (fun q => q = x ∨ (x + 141 ≤ q ∧ q ≤ x + 152)) h g2 := ((fx.of (x := x) f1).wk fun q z => Or.inl z).tr (F0.wk fun q z => Or.inr z)
    have ex2 : ∀ i, i ≠ 1 → zI g2 x i = zI h x i := fun i hi => by rw [F0.1.2.2.2.2.2.1 x (by omega)]; exact ex i hi
    have rr2 : zR g2 = zR h := by rw [f2.2, f1.2]
    have t2 : tpS g2 x 0 B := t1.fx F0 (fun q z => by omega) (by rw [F0.1.2.2.2.2.2.1 x (by omega)])
    have aA : iA g2 x m o := iA.keep cA hm F1 (by rw [F1.1.2.2.2.2.2.1 m (by omega)])
    have aS : thS g2 x := iS.keep cS F1 (fun q z => by omega)
    have aN : jN g2 x m := jN.keep cN hm F1 (fun q z => by omega) (by rw [rr2]) (ex2 6 (by omega)) (by rw [F1.1.2.2.2.2.2.1 (x + 117) (by omega)])
    have aF : iF g2 x m := iF.keep cF (ex2 4 (by omega)) (by rw [F1.1.2.2.2.2.2.1 m (by omega)])
    have aR : iR g2 x m := iR.keep cR F1 (fun q z => by omega) (by rw [F1.1.2.2.2.2.2.1 (x + 117) (by omega)]) (by rw [F1.1.2.2.2.2.2.1 m (by omega)])
    have aP : iP g2 x m := iP.keep cP F1 (fun q z => by omega)
    have aO : iO g2 x m := iO.keep cO F1 (fun q z => by omega) (by rw [F1.1.2.2.2.2.2.1 m (by omega)]) (by rw [F1.1.2.2.2.2.2.1 m (by omega)]) (by rw [F1.1.2.2.2.2.2.1 m (by omega)])
    have aG : iG g2 x m := iG.keep cG F1 (fun q z => by omega) (by rw [F1.1.2.2.2.2.2.1 m (by omega)]) (by rw [F1.1.2.2.2.2.2.1 m (by omega)])
    have aL : iL g2 x m := iL.keep cL F1 (fun q z => by omega)
    have aK : iK g2 x m := by
      obtain ⟨L, w, k1, k2, k3, k4⟩ := cK
      refine ⟨L, w, k1, ?_, by rw [F1.1.2.2.2.2.2.1 m (by omega)]; exact k3, fun i hi => by rw [F1.1.2.2.2.2.2.1 (m + 29) (by omega)]; exact k4 i hi⟩
      rw [wdP, e6, e1, f1.1.2.2.2.2.2.1 (x + 141) (by omega), f1.1.2.2.2.2.2.1 (x + 141 + 1) (by omega)]
      exact k2
    refine hq g2 _ ⟨_, rfl⟩ F1.sz F1.1.1 fun Q2 hq2 => ?_
    refine t_M_laid (D := 135) aA.2.1 (tM.fx F1 (fun q z => by omega) (by rw [F1.1.2.2.2.2.2.1 m (by omega)])) hn (fun w2 => absurd w w2) (fun _ f' u b1 b2 mn' pu gu lu g f3 t3 _ em e56 us => ?_) fun _ c2 g f3 t3 _ em => ?_
    · exfalso
      cases cc with
      | inl c2 => exact la_cr hB n24.2 hp c2 pu gu
      | inr c2 => exact laid_none hB n24 hp (c2 f' b1 b2) u pu gu
    · have F3 : fx x (fun q => q = m ∨ q = m + 27 ∨ (m + 30 ≤ q ∧ q ≤ m + 32)) g2 g := fx.of f3
      refine hq2 g F3.sz ?_
      exact ⟨iA.keep aA hm F3 (em 7 (by omega) (by omega) (by omega) (by omega) (by omega)), iS.keep aS F3 (fun q z => by omega), ⟨_, _, t2.fx F3 (fun q z => by omega) (by rw [F3.1.2.2.2.2.2.1 x (by omega)]), t3⟩, jN.keep aN hm F3 (fun q z => by omega) (by rw [F3.1.2.2.2.2.2.2.2 x (by omega)]) (by rw [F3.1.2.2.2.2.2.1 x (by omega)]) (by rw [F3.1.2.2.2.2.2.1 (x + 117) (by omega)]), iF.keep aF (by rw [F3.1.2.2.2.2.2.1 x (by omega)]) (em 21 (by omega) (by omega) (by omega) (by omega) (by omega)), iR.keep aR F3 (fun q z => by omega) (by rw [F3.1.2.2.2.2.2.1 (x + 117) (by omega)]) (em 28 (by omega) (by omega) (by omega) (by omega) (by omega)), iP.keep aP F3 (fun q z => by omega), iO.keep aO F3 (fun q z => by omega) (em 39 (by omega) (by omega) (by omega) (by omega) (by omega)) (em 41 (by omega) (by omega) (by omega) (by omega) (by omega)) (em 42 (by omega) (by omega) (by omega) (by omega) (by omega)), iG.keep aG F3 (fun q z => by omega) (em 54 (by omega) (by omega) (by omega) (by omega) (by omega)) (em 55 (by omega) (by omega) (by omega) (by omega) (by omega)), iK.keep aK F3 (fun q z => by omega) (by rw [F3.1.2.2.2.2.2.1 (x + 141) (by omega)]) (em 56 (by omega) (by omega) (by omega) (by omega) (by omega)), iL.keep aL F3 (fun q z => by omega)⟩
theorem p_table (hm : m = x + 161) (I : INV h x m o) : pr2 iV m_D_table m_M_table [.ref x] [.ref m] h x m o := fun Q1 hq => by
  obtain ⟨cA, cS, cT, cN, cF, cR, cP, cO, cG, cK, cL⟩ := id I
  obtain ⟨nm, F, V, fl, dn, nw, mN, fN, nN⟩ := id cN
  obtain ⟨t, to, nm0, va, st, tm, F0, Wd0, V0, Wd, c1, c2, c3, c4, c5, c6⟩ := id dn
  obtain ⟨len, B, tD, tM⟩ := id cT
  obtain ⟨R, hR, hfk⟩ := tl_all (B := B) (len := (len : Int)) (va := va) (by omega) F0 Wd0 V0
  have vb := c3.2.1.2.2
  have h7 := cA.2.2.1
  have off : ∀ q, tbC x to q → q = x ∨ (x + 2 ≤ q ∧ q < x + 117 ∧ (q < t ∨ t + 28 ≤ q)) := fun q z => by
    rcases z with z | z | z
    · exact Or.inl z
    · have z1 := z.1
      have z2 := z.2
      omega
    · have z1 := z.1
      have z2 := z.2
      omega
  have mk : ∀ g1, fr (tbC x to) h g1 → (∀ i, i ≠ 2 → zR g1 x i = zR h x i) → fx x (fun q => q = x ∨ (x + 2 ≤ q ∧ q < x + 117 ∧ (q < t ∨ t + 28 ≤ q))) h g1 := fun g1 f1 rr => ⟨f1.wk off, fun a h1 h2 => f1.2.2.2.2.2.2.2 a fun z => by have := off a z; omega, rr⟩
  have keepT : ∀ g1 (W : Nat → Int), fx x (fun q => q = x ∨ (x + 2 ≤ q ∧ q < x + 117 ∧ (q < t ∨ t + 28 ≤ q))) h g1 → isTb g1 t nm F Wd ∧ ∀ k, k < 12 → rowP g1 (t + 4 + 2 * k) 200 (V k) := fun g1 W f => ⟨c4.keep f.1 (fun q z => by omega), fun k hk => (c5 k hk).keep f.1 (by omega) (by omega)⟩
  refine t_table (D := 16) tD c1 cA.1.2.1.2.1 c3 ⟨c4.1, by have := c4.2.1; omega⟩ c2 hR hfk (fun r0 g1 va' st2 tm2 f1 t1 e4 e6 ex rx rr teo rd bn tb rows wb gvs => ?_) fun r0 g1 va' st2 tm2 nm2 F2 Wd2 V2 f1 t1 e4 ex rr tlo => ?_
  · have F1 := mk g1 f1 rr
    obtain ⟨kt, kr⟩ := keepT g1 Wd F1
    have aA : iA g1 x m o := iA.keep cA hm F1 (by rw [F1.1.2.2.2.2.2.1 m (by omega)])
    have aS : thS g1 x := iS.keep cS F1 (fun q z => by omega)
    have aR : iR g1 x m := iR.keep cR F1 (fun q z => by omega) (by rw [F1.1.2.2.2.2.2.1 (x + 117) (by omega)]) (by rw [F1.1.2.2.2.2.2.1 m (by omega)])
    have aP : iP g1 x m := iP.keep cP F1 (fun q z => by omega)
    have aO : iO g1 x m := iO.keep cO F1 (fun q z => by omega) (by rw [F1.1.2.2.2.2.2.1 m (by omega)]) (by rw [F1.1.2.2.2.2.2.1 m (by omega)]) (by rw [F1.1.2.2.2.2.2.1 m (by omega)])
    have aG : iG g1 x m := iG.keep cG F1 (fun q z => by omega) (by rw [F1.1.2.2.2.2.2.1 m (by omega)]) (by rw [F1.1.2.2.2.2.2.1 m (by omega)])
    have aK : iK g1 x m := iK.keep cK F1 (fun q z => by omega) (by rw [F1.1.2.2.2.2.2.1 (x + 141) (by omega)]) (by rw [F1.1.2.2.2.2.2.1 m (by omega)])
    have aL : iL g1 x m := iL.keep cL F1 (fun q z => by omega)
    have d1 : dN g1 x R.2.2.1 R.2.2.2.1 R.2.2.2.2.2 := ⟨to, t, nm, va', st2, tm2, F, Wd, V, R.2.2.2.2.1, rx, by omega, ⟨teo, rd, bn, kt, kr, c6⟩, tb, rows, wb⟩
    have w1 : nwS g1 x R.2.2.1 R.2.2.2.2.2 := ⟨aA.1.2.1.2.2.1, aA.1.2.2.1, Or.inl e6⟩
    refine hq g1 _ ⟨_, rfl⟩ F1.sz F1.1.1 fun Q2 hq2 => ?_
    refine t_M_table (D := 132) aA.2.1 (tM.fx F1 (fun q z => by omega) (by rw [F1.1.2.2.2.2.2.1 m (by omega)])) aA.2.2.1 vb hR (fun _ g fl' f2 em t2 _ e21 h7' mn fs ns => ?_) fun r1 => absurd r0 r1
    have F3 : fx x (fun q => q = m ∨ (m + 2 ≤ q ∧ q ≤ m + 14)) g1 g := fx.of f2
    have d2 := d1.keep F3.1 (fun q z => by omega) (by rw [f2.2])
    have w2 := w1.fx F3 (fun q z => by omega) (by rw [F3.1.2.2.2.2.2.1 x (by omega)]) (by rw [F3.1.2.2.2.2.2.1 (x + 117) (by omega)])
    have bA : iA g x m o := ⟨aA.1.fx F3, aA.2.1.fx F3 (by omega), h7', by rw [F3.1.1, F3.1.2.1, F3.1.2.2.1]; exact aA.2.2.2⟩
    have bT : iT g x m := ⟨_, _, t1.fx F3 (fun q z => by omega) (by rw [F3.1.2.2.2.2.2.1 x (by omega)]), t2⟩
    have bN : jN g x m := ⟨_, _, _, fl', d2, w2, mn, fs, ns⟩
    have bF : iF g x m := ⟨0, by rw [F3.1.2.2.2.2.2.1 x (by omega)]; exact e4, e21⟩
    refine hq2 g F3.sz ?_
    exact ⟨bA, iS.keep aS F3 (fun q z => by omega), bT, bN, bF, iR.keep aR F3 (fun q z => by omega) (by rw [F3.1.2.2.2.2.2.1 (x + 117) (by omega)]) (em 28 (by omega) (by omega) (by omega) (by omega) (by omega) (by omega) (by omega) (by omega) (by omega) (by omega) (by omega)), iP.keep aP F3 (fun q z => by omega), iO.keep aO F3 (fun q z => by omega) (em 39 (by omega) (by omega) (by omega) (by omega) (by omega) (by omega) (by omega) (by omega) (by omega) (by omega) (by omega)) (em 41 (by omega) (by omega) (by omega) (by omega) (by omega) (by omega) (by omega) (by omega) (by omega) (by omega) (by omega)) (em 42 (by omega) (by omega) (by omega) (by omega) (by omega) (by omega) (by omega) (by omega) (by omega) (by omega) (by omega)), iG.keep aG F3 (fun q z => by omega) (em 54 (by omega) (by omega) (by omega) (by omega) (by omega) (by omega) (by omega) (by omega) (by omega) (by omega) (by omega)) (em 55 (by omega) (by omega) (by omega) (by omega) (by omega) (by omega) (by omega) (by omega) (by omega) (by omega) (by omega)), iK.keep aK F3 (fun q z => by omega) (by rw [F3.1.2.2.2.2.2.1 (x + 141) (by omega)]) (em 56 (by omega) (by omega) (by omega) (by omega) (by omega) (by omega) (by omega) (by omega) (by omega) (by omega) (by omega)), iL.keep aL F3 (fun q z => by omega)⟩
  · have F1 := mk g1 f1 fun i _ => rr i
    obtain ⟨kt, kr⟩ := keepT g1 Wd F1
    have aA : iA g1 x m o := iA.keep cA hm F1 (by rw [F1.1.2.2.2.2.2.1 m (by omega)])
    have aS : thS g1 x := iS.keep cS F1 (fun q z => by omega)
    have aR : iR g1 x m := iR.keep cR F1 (fun q z => by omega) (by rw [F1.1.2.2.2.2.2.1 (x + 117) (by omega)]) (by rw [F1.1.2.2.2.2.2.1 m (by omega)])
    have aP : iP g1 x m := iP.keep cP F1 (fun q z => by omega)
    have aO : iO g1 x m := iO.keep cO F1 (fun q z => by omega) (by rw [F1.1.2.2.2.2.2.1 m (by omega)]) (by rw [F1.1.2.2.2.2.2.1 m (by omega)]) (by rw [F1.1.2.2.2.2.2.1 m (by omega)])
    have aG : iG g1 x m := iG.keep cG F1 (fun q z => by omega) (by rw [F1.1.2.2.2.2.2.1 m (by omega)]) (by rw [F1.1.2.2.2.2.2.1 m (by omega)])
    have aK : iK g1 x m := iK.keep cK F1 (fun q z => by omega) (by rw [F1.1.2.2.2.2.2.1 (x + 141) (by omega)]) (by rw [F1.1.2.2.2.2.2.1 m (by omega)])
    have aL : iL g1 x m := iL.keep cL F1 (fun q z => by omega)
    have n1 := mNk ⟨mN, fN, nN⟩ F1 (fun q z => by omega)
    have d1 : dN g1 x nm F V := ⟨t, to, nm2, va', st2, tm2, F2, Wd2, V2, Wd, by rw [rr]; exact c1, c2, tlo, kt, kr, c6⟩
    have w1 := nw.fx F1 (fun q z => by omega) (ex 6 (by omega) (by omega)) (by rw [F1.1.2.2.2.2.2.1 (x + 117) (by omega)])
    refine hq g1 _ ⟨_, rfl⟩ F1.sz F1.1.1 fun Q2 hq2 => ?_
    refine t_M_table (D := 132) aA.2.1 (tM.fx F1 (fun q z => by omega) (by rw [F1.1.2.2.2.2.2.1 m (by omega)])) aA.2.2.1 vb hR (fun r1 => absurd r1 r0) fun _ g f2 em t2 _ e21 h7' slk f6 f5 e7 => ?_
    have F3 : fx x (fun q => q = m ∨ (m + 2 ≤ q ∧ q ≤ m + 7) ∨ (m + 9 ≤ q ∧ q ≤ m + 12)) g1 g := fx.of f2
    have n12 := mN.2.1
    have d2 := d1.keep F3.1 (fun q z => by omega) (by rw [f2.2])
    have w2 := w1.fx F3 (fun q z => by omega) (by rw [F3.1.2.2.2.2.2.1 x (by omega)]) (by rw [F3.1.2.2.2.2.2.1 (x + 117) (by omega)])
    have bA : iA g x m o := ⟨aA.1.fx F3, aA.2.1.fx F3 (by omega), h7', by rw [F3.1.1, F3.1.2.1, F3.1.2.2.1]; exact aA.2.2.2⟩
    have bT : iT g x m := ⟨_, _, t1.fx F3 (fun q z => by omega) (by rw [F3.1.2.2.2.2.2.1 x (by omega)]), t2⟩
    have bM : mnS g m nm F V := ⟨by rw [e7]; exact n1.1.1, n12, fun k hk => ⟨by rw [f6 k (by omega)]; exact (n1.1.2.2 k hk).1, slk k _ _ (by omega) (n1.1.2.2 k hk).2.1, (n1.1.2.2 k hk).2.2⟩⟩
    have bN : jN g x m := ⟨nm, F, V, fl, d2, w2, bM, n1.2.1.of (fun j _ _ => f6 j (by omega)) (fun j _ _ => f5 j (by omega)), fun a b ha hb => by rw [F3.1.2.2.2.2.2.1 (m + 8) (by omega)]; exact n1.2.2 a b ha hb⟩
    have bF : iF g x m := ⟨R.1, by rw [F3.1.2.2.2.2.2.1 x (by omega)]; exact e4, e21⟩
    refine hq2 g F3.sz ?_
    exact ⟨bA, iS.keep aS F3 (fun q z => by omega), bT, bN, bF, iR.keep aR F3 (fun q z => by omega) (by rw [F3.1.2.2.2.2.2.1 (x + 117) (by omega)]) (em 28 (by omega) (by omega) (by omega) (by omega) (by omega) (by omega) (by omega) (by omega) (by omega) (by omega) (by omega)), iP.keep aP F3 (fun q z => by omega), iO.keep aO F3 (fun q z => by omega) (em 39 (by omega) (by omega) (by omega) (by omega) (by omega) (by omega) (by omega) (by omega) (by omega) (by omega) (by omega)) (em 41 (by omega) (by omega) (by omega) (by omega) (by omega) (by omega) (by omega) (by omega) (by omega) (by omega) (by omega)) (em 42 (by omega) (by omega) (by omega) (by omega) (by omega) (by omega) (by omega) (by omega) (by omega) (by omega) (by omega)), iG.keep aG F3 (fun q z => by omega) (em 54 (by omega) (by omega) (by omega) (by omega) (by omega) (by omega) (by omega) (by omega) (by omega) (by omega) (by omega)) (em 55 (by omega) (by omega) (by omega) (by omega) (by omega) (by omega) (by omega) (by omega) (by omega) (by omega) (by omega)), iK.keep aK F3 (fun q z => by omega) (by rw [F3.1.2.2.2.2.2.1 (x + 141) (by omega)]) (em 56 (by omega) (by omega) (by omega) (by omega) (by omega) (by omega) (by omega) (by omega) (by omega) (by omega) (by omega)), iL.keep aL F3 (fun q z => by omega)⟩
end PRW
