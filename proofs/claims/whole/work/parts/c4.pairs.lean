/-! pairs of calls: DiceRing's and the Model's -/
def INV (h : Hp) (x m o : Nat) : Prop := iA h x m o ∧ thS h x ∧ iT h x m ∧ jN h x m ∧ iF h x m ∧ iR h x m ∧ iP h x m ∧ iO h x m ∧ iG h x m ∧ iK h x m ∧ iL h x m
abbrev szE (h g : Hp) : Prop := zN g = zN h ∧ zC g = zC h ∧ zS g = zS h
theorem fx.sz {x : Nat} {S : Nat → Prop} {h g : Hp} (f : fx x S h g) : szE h g := ⟨f.1.2.2.1, f.1.2.2.2.1, f.1.2.2.2.2.1⟩
/-- DiceRing's call and behind it the Model's: the same answer -/
def pr2 (P : Value → Prop) (kD kM : Nat) (a b : List Value) (h : Hp) (x m o : Nat) : Prop := ∀ Q1 : Nat → Option Value → Hp → Prop, (∀ g1 v, P v → szE h g1 → zK g1 = zK h → (∀ Q2 : Nat → Option Value → Hp → Prop, (∀ g2, szE g1 g2 → INV g2 x m o → Q2 0 (some v) g2) → PR 139 kM b g1 Q2) → Q1 0 (some v) g1) → PR 139 kD a h Q1
abbrev iV (v : Value) : Prop := ∃ c : Int32, v = .int c
abbrev lV (v : Value) : Prop := ∃ c : Int64, v = .long c
section PRS
variable {x m o : Nat} {h g : Hp}
theorem dA.N (a : dA h x) : zK h x = 11 ∧ x < zN h := ⟨a.1.1, by have := a.1.2; omega⟩
/-- the Model's own work: the state stays -/
theorem INV.ms {S : Nat → Prop} (hm : m = x + 161) (I : INV h x m o) (f : fi S h g) (hs : ∀ q, S q → q = m ∨ (m + 9 ≤ q ∧ q ≤ m + 15) ∨ q = m + 17 ∨ q = m + 18 ∨ (m + 20 ≤ q ∧ q ≤ m + 24) ∨ q = m + 27 ∨ (m + 30 ≤ q ∧ q ≤ m + 33) ∨ q = m + 35) (em : ∀ i, i = 2 ∨ i = 7 ∨ i = 21 ∨ i = 28 ∨ i = 39 ∨ i = 41 ∨ i = 42 ∨ i = 54 ∨ i = 55 ∨ i = 56 → zI g m i = zI h m i) : szE h g ∧ INV g x m o := by
  obtain ⟨cA, cS, cT, cN, cF, cR, cP, cO, cG, cK, cL⟩ := I
  have F2 : fx x (fun q => q = m ∨ (m + 9 ≤ q ∧ q ≤ m + 15) ∨ q = m + 17 ∨ q = m + 18 ∨ (m + 20 ≤ q ∧ q ≤ m + 24) ∨ q = m + 27 ∨ (m + 30 ≤ q ∧ q ≤ m + 33) ∨ q = m + 35) h g := (fx.of f).wk hs
  refine ⟨F2.sz, ?_⟩
  exact ⟨iA.keep cA hm F2 (em 7 (by omega)), iS.keep cS F2 (fun q z => by omega), iT.keep cT F2 (fun q z => by omega) (by rw [F2.1.2.2.2.2.2.1 x (by omega)]) (em 2 (by omega)), jN.keep cN hm F2 (fun q z => by omega) (by rw [F2.1.2.2.2.2.2.2.2 x (by omega)]) (by rw [F2.1.2.2.2.2.2.1 x (by omega)]) (by rw [F2.1.2.2.2.2.2.1 (x + 117) (by omega)]), iF.keep cF (by rw [F2.1.2.2.2.2.2.1 x (by omega)]) (em 21 (by omega)), iR.keep cR F2 (fun q z => by omega) (by rw [F2.1.2.2.2.2.2.1 (x + 117) (by omega)]) (em 28 (by omega)), iP.keep cP F2 (fun q z => by omega), iO.keep cO F2 (fun q z => by omega) (em 39 (by omega)) (em 41 (by omega)) (em 42 (by omega)), iG.keep cG F2 (fun q z => by omega) (em 54 (by omega)) (em 55 (by omega)), iK.keep cK F2 (fun q z => by omega) (by rw [F2.1.2.2.2.2.2.1 (x + 141) (by omega)]) (em 56 (by omega)), iL.keep cL F2 (fun q z => by omega)⟩
theorem INV.mt {b : Int} (hm : m = x + 161) (I : INV h x m o) (z : mt0 h g m b) : szE h g ∧ INV g x m o := I.ms hm z.1 (fun q w => Or.inl w) fun i hi => z.2.1 i (by omega)
/-- DiceRing's own work: the state stays -/
theorem INV.ds {S : Nat → Prop} (hm : m = x + 161) (I : INV h x m o) (f : fx x S h g) (hs : ∀ q, S q → x + 154 ≤ q ∧ q < x + 161) (th : thS g x) : INV g x m o := by
  obtain ⟨cA, cS, cT, cN, cF, cR, cP, cO, cG, cK, cL⟩ := I
  have F2 : fx x (fun q => x + 154 ≤ q ∧ q < x + 161) h g := f.wk hs
  exact ⟨iA.keep cA hm F2 (by rw [F2.1.2.2.2.2.2.1 m (by omega)]), th, iT.keep cT F2 (fun q z => by omega) (by rw [F2.1.2.2.2.2.2.1 x (by omega)]) (by rw [F2.1.2.2.2.2.2.1 m (by omega)]), jN.keep cN hm F2 (fun q z => by omega) (by rw [F2.1.2.2.2.2.2.2.2 x (by omega)]) (by rw [F2.1.2.2.2.2.2.1 x (by omega)]) (by rw [F2.1.2.2.2.2.2.1 (x + 117) (by omega)]), iF.keep cF (by rw [F2.1.2.2.2.2.2.1 x (by omega)]) (by rw [F2.1.2.2.2.2.2.1 m (by omega)]), iR.keep cR F2 (fun q z => by omega) (by rw [F2.1.2.2.2.2.2.1 (x + 117) (by omega)]) (by rw [F2.1.2.2.2.2.2.1 m (by omega)]), iP.keep cP F2 (fun q z => by omega), iO.keep cO F2 (fun q z => by omega) (by rw [F2.1.2.2.2.2.2.1 m (by omega)]) (by rw [F2.1.2.2.2.2.2.1 m (by omega)]) (by rw [F2.1.2.2.2.2.2.1 m (by omega)]), iG.keep cG F2 (fun q z => by omega) (by rw [F2.1.2.2.2.2.2.1 m (by omega)]) (by rw [F2.1.2.2.2.2.2.1 m (by omega)]), iK.keep cK F2 (fun q z => by omega) (by rw [F2.1.2.2.2.2.2.1 (x + 141) (by omega)]) (by rw [F2.1.2.2.2.2.2.1 m (by omega)]), iL.keep cL F2 (fun q z => by omega)⟩
theorem p_fault (hm : m = x + 161) (I : INV h x m o) : pr2 iV m_D_fault m_M_fault [.ref x] [.ref m] h x m o := fun Q1 hq => by
  obtain ⟨cA, cS, cT, cN, ⟨f, f1, f2⟩, cR, cP, cO, cG, cK, cL⟩ := id I
  refine t_fault cA.1.N f1 (hq h _ ⟨_, rfl⟩ ⟨rfl, rfl, rfl⟩ rfl fun Q2 hq2 => ?_)
  refine t_M_fault cA.2.1 f2 fun g z => ?_
  exact hq2 g (I.mt hm z).1 (I.mt hm z).2
theorem p_all {k : Int} (hk : i32 k) (hm : m = x + 161) (I : INV h x m o) : pr2 lV m_D_all m_M_all [.ref x, .int (iI k)] [.ref m, .int (iI k)] h x m o := fun Q1 hq => by
  obtain ⟨cA, cS, ⟨len, B, tD, tM⟩, ⟨nm, F, V, fl, ⟨t, to, nm0, va, st, tm, F0, Wd0, V0, Wd, c1, c2, c3, c4, c5, c6⟩, nw, mN, fN, nN⟩, cF, cR, cP, cO, cG, cK, cL⟩ := id I
  refine t_all (d := 137) tD c1 c4 c5 hk (hq h _ ⟨_, rfl⟩ ⟨rfl, rfl, rfl⟩ rfl fun Q2 hq2 => ?_)
  refine t_M_all (d := 137) cA.2.1 mN hk fun g z => ?_
  exact hq2 g (I.mt hm z).1 (I.mt hm z).2
theorem p_ways {k n : Int} (hk : i32 k) (hn : i32 n) (hm : m = x + 161) (I : INV h x m o) : pr2 lV m_D_ways m_M_ways [.ref x, .int (iI k), .int (iI n)] [.ref m, .int (iI k), .int (iI n)] h x m o := fun Q1 hq => by
  obtain ⟨cA, cS, ⟨len, B, tD, tM⟩, ⟨nm, F, V, fl, ⟨t, to, nm0, va, st, tm, F0, Wd0, V0, Wd, c1, c2, c3, c4, c5, c6⟩, nw, mN, fN, nN⟩, cF, cR, cP, cO, cG, cK, cL⟩ := id I
  refine t_ways (d := 137) tD c1 c4 c5 hk hn (hq h _ ⟨_, rfl⟩ ⟨rfl, rfl, rfl⟩ rfl fun Q2 hq2 => ?_)
  refine t_M_ways (d := 137) cA.2.1 mN hk hn fun g z => ?_
  exact hq2 g (I.mt hm z).1 (I.mt hm z).2
theorem p_count {c : Int} (hc : i32 c) (hm : m = x + 161) (I : INV h x m o) : pr2 iV m_D_count m_M_count [.ref x, .int (iI c)] [.ref m, .int (iI c)] h x m o := fun Q1 hq => by
  obtain ⟨cA, cS, ⟨len, B, tD, tM⟩, ⟨nm, F, V, fl, ⟨t, to, nm0, va, st, tm, F0, Wd0, V0, Wd, c1, c2, c3, c4, c5, c6⟩, nw, mN, fN, nN⟩, cF, cR, cP, cO, cG, cK, cL⟩ := id I
  refine t_count (d := 137) tD c1 c4 (nm_F fN) hc (hq h _ ⟨_, rfl⟩ ⟨rfl, rfl, rfl⟩ rfl fun Q2 hq2 => ?_)
  refine t_M_count (d := 139) cA.2.1 mN tM.1 (nm_F fN) hc fun g z => ?_
  exact hq2 g (I.mt hm z).1 (I.mt hm z).2
theorem p_ringAt {k : Int} (hk : i32 k) (hm : m = x + 161) (I : INV h x m o) : pr2 iV m_D_ringAt m_M_ringAt [.ref x, .int (iI k)] [.ref m, .int (iI k)] h x m o := fun Q1 hq => by
  obtain ⟨cA, cS, cT, cN, cF, ⟨rn, rm, r1, r2, r3, r4⟩, cP, cO, cG, cK, cL⟩ := id I
  refine t_ringAt (d := 138) cA.1.N cA.1.2.1.2.2.1 cA.1.2.2.1 hk r2 r1 (fun i hi => (r4 i hi).1) (hq h _ ⟨_, rfl⟩ ⟨rfl, rfl, rfl⟩ rfl fun Q2 hq2 => ?_)
  refine t_M_ringAt (d := 138) cA.2.1 hk r3 r1 (fun i hi => (r4 i hi).2) fun g z => ?_
  exact hq2 g (I.mt hm z).1 (I.mt hm z).2
theorem p_pickAt {k : Int} (hk : i32 k) (hm : m = x + 161) (I : INV h x m o) : pr2 iV m_D_pickAt m_M_pickAt [.ref x, .int (iI k)] [.ref m, .int (iI k)] h x m o := fun Q1 hq => by
  obtain ⟨cA, cS, cT, cN, cF, cR, ⟨sh, s1⟩, cO, cG, cK, cL⟩ := id I
  refine t_pickAt (d := 138) cA.1.N cA.1.2.1.2.2.2.1 cA.1.2.2.2.1 hk (fun i hi => (s1 i hi).2.1) (hq h _ ⟨_, rfl⟩ ⟨rfl, rfl, rfl⟩ rfl fun Q2 hq2 => ?_)
  refine t_M_pickAt (d := 138) cA.2.1 hk (fun i hi => ⟨(s1 i hi).1, (s1 i hi).2.2⟩) fun g z => ?_
  exact hq2 g (I.mt hm z).1 (I.mt hm z).2
theorem p_rolledBy {k : Int} (hk : i32 k) (hm : m = x + 161) (I : INV h x m o) : pr2 lV m_D_rolledBy m_M_rolledBy [.ref x, .int (iI k)] [.ref m, .int (iI k)] h x m o := fun Q1 hq => by
  obtain ⟨cA, cS, cT, cN, cF, cR, cP, cO, cG, cK, ⟨p, p1⟩⟩ := id I
  refine t_rolledBy (d := 139) cA.1.N cA.1.2.1.2.2.2.2.2.2.2.1 hk (fun i hi => (p1 i hi).1) (hq h _ ⟨_, rfl⟩ ⟨rfl, rfl, rfl⟩ rfl fun Q2 hq2 => ?_)
  refine t_M_rolledBy (d := 138) cA.2.1 hk (fun i hi => (p1 i hi).2) fun g z => ?_
  exact hq2 g (I.mt hm z).1 (I.mt hm z).2
theorem p_letter {k : Int} (hk : i32 k) (hm : m = x + 161) (I : INV h x m o) : pr2 iV m_D_letter m_M_letter [.ref x, .int (iI k)] [.ref m, .int (iI k)] h x m o := fun Q1 hq => by
  obtain ⟨cA, cS, cT, cN, cF, cR, cP, cO, cG, ⟨L, w, L12, w1, w2, w3⟩, cL⟩ := id I
  have el : (lstW w L).length = L := lst_len w L
  refine t_letter (d := 138) cA.1.N cA.1.2.1.2.2.2.2.2.2.1 cA.1.2.2.2.2.2.2 hk (by omega) w1 ?_
  have e : (if 0 ≤ k ∧ k < ((lstW w L).length : Int) then ((((lstW w L).reverse[k.toNat]?).getD 0 : Nat) : Int) else -1) = if 0 ≤ k ∧ k < (L : Int) then ((w k.toNat : Nat) : Int) else -1 := by
    rw [el]
    by_cases c : 0 ≤ k ∧ k < (L : Int)
    · rw [if_pos c, if_pos c, lst_get w L k.toNat (by omega)]
      rfl
    · rw [if_neg c, if_neg c]
  rw [e]
  refine hq h _ ⟨_, rfl⟩ ⟨rfl, rfl, rfl⟩ rfl fun Q2 hq2 => ?_
  refine t_M_letter (d := 138) cA.2.1 hk w2 L12 w3 fun g z => ?_
  exact hq2 g (I.mt hm z).1 (I.mt hm z).2
theorem p_apart {a b : Int} (ha : i32 a) (hb : i32 b) (hm : m = x + 161) (I : INV h x m o) : pr2 lV m_D_apart m_M_apart [.ref x, .int (iI a), .int (iI b)] [.ref m, .int (iI a), .int (iI b)] h x m o := fun Q1 hq => by
  obtain ⟨cA, cS, ⟨len, B, tD, tM⟩, ⟨nm, F, V, fl, ⟨t, to, nm0, va, st, tm, F0, Wd0, V0, Wd, c1, c2, c3, c4, c5, c6⟩, nw, mN, fN, nN⟩, cF, cR, cP, cO, cG, cK, cL⟩ := id I
  refine t_apart (d := 137) cA.1.N c1 c4 c5 (nm_g mN) ha hb (hq h _ ⟨_, rfl⟩ ⟨rfl, rfl, rfl⟩ rfl fun Q2 hq2 => ?_)
  refine t_M_apart (d := 137) cA.2.1 mN ha hb fun g z => ?_
  exact hq2 g (I.mt hm z).1 (I.mt hm z).2
theorem p_against {a b k c : Int} (ha : i32 a) (hb : i32 b) (hk : i32 k) (hc : i32 c) (hm : m = x + 161) (I : INV h x m o) : pr2 lV m_D_against m_M_against [.ref x, .int (iI a), .int (iI b), .int (iI k), .int (iI c)] [.ref m, .int (iI a), .int (iI b), .int (iI k), .int (iI c)] h x m o := fun Q1 hq => by
  obtain ⟨cA, cS, ⟨len, B, tD, tM⟩, ⟨nm, F, V, fl, ⟨t, to, nm0, va, st, tm, F0, Wd0, V0, Wd, c1, c2, c3, c4, c5, c6⟩, nw, mN, fN, nN⟩, cF, cR, cP, cO, cG, cK, cL⟩ := id I
  refine t_against (d := 134) cA.1.N c1 c4 c5 (nm_g mN) cS (by omega) ha hb hk hc fun g1 f1 th => ?_
  have F1 : fx x (fun q => x + 155 ≤ q ∧ q < x + 161) h g1 := fx.of_fr f1 fun q z => z
  have I1 := I.ds hm F1 (fun q z => by omega) th
  have n1 := mNk ⟨mN, fN, nN⟩ F1 (fun q z => by omega)
  refine hq g1 _ ⟨_, rfl⟩ F1.sz F1.1.1 fun Q2 hq2 => ?_
  refine t_M_against (d := 136) I1.1.2.1 n1.1 ha hb hk hc fun g f e _ => ?_
  have R := I1.ms hm f (fun q z => by rcases z with z | z | z <;> omega) fun i hi => e i (by omega)
  exact hq2 g R.1 R.2
theorem p_beats {a b k : Int} (ha : i32 a) (hb : i32 b) (hk : i32 k) (hm : m = x + 161) (I : INV h x m o) : pr2 iV m_D_beats m_M_beats [.ref x, .int (iI a), .int (iI b), .int (iI k)] [.ref m, .int (iI a), .int (iI b), .int (iI k)] h x m o := fun Q1 hq => by
  obtain ⟨cA, cS, ⟨len, B, tD, tM⟩, ⟨nm, F, V, fl, ⟨t, to, nm0, va, st, tm, F0, Wd0, V0, Wd, c1, c2, c3, c4, c5, c6⟩, nw, mN, fN, nN⟩, cF, cR, cP, cO, cG, cK, cL⟩ := id I
  refine t_beats (d := 134) cA.1.N c1 c4 c5 (nm_g mN) cS (by omega) ha hb hk fun g1 f1 th => ?_
  have F1 : fx x (fun q => x + 155 ≤ q ∧ q < x + 161) h g1 := fx.of_fr f1 fun q z => z
  have I1 := I.ds hm F1 (fun q z => by omega) th
  have n1 := mNk ⟨mN, fN, nN⟩ F1 (fun q z => by omega)
  refine hq g1 _ ⟨_, rfl⟩ F1.sz F1.1.1 fun Q2 hq2 => ?_
  refine t_M_beats (d := 136) I1.1.2.1 n1.1 ha hb hk fun g f e _ => ?_
  have R := I1.ms hm f (fun q z => by rcases z with z | z | z <;> omega) fun i hi => e i (by omega)
  exact hq2 g R.1 R.2
theorem p_meets {k s : Int} (hk : i32 k) (hs : i32 s) (hm : m = x + 161) (I : INV h x m o) : pr2 lV m_D_meets m_M_meets [.ref x, .int (iI k), .int (iI s)] [.ref m, .int (iI k), .int (iI s)] h x m o := fun Q1 hq => by
  obtain ⟨cA, cS, ⟨len, B, tD, tM⟩, ⟨nm, F, V, fl, ⟨t, to, nm0, va, st, tm, F0, Wd0, V0, Wd, c1, c2, c3, c4, c5, c6⟩, nw, mN, fN, nN⟩, cF, cR, cP, cO, cG, cK, cL⟩ := id I
  refine t_meets (d := 138) cA.1.N c1 cA.1.2.1.2.2.2.2.2.2.2.2 c4 (by omega) c5 (nm_g mN) hk hs (fun w => ?_) fun w g1 f1 => ?_
  · refine hq h _ ⟨_, rfl⟩ ⟨rfl, rfl, rfl⟩ rfl fun Q2 hq2 => ?_
    refine t_M_meets (d := 137) cA.2.1 mN hk hs (fun _ g z => ?_) fun w2 => absurd w2 w
    exact hq2 g (I.mt hm z).1 (I.mt hm z).2
  · have F1 : fx x (fun q => q = x + 154) h g1 := fx.of f1
    have th : thS g1 x := iS.keep cS F1 (fun q z => by omega)
    have I1 := I.ds hm F1 (fun q z => by omega) th
    have n1 := mNk ⟨mN, fN, nN⟩ F1 (fun q z => by omega)
    refine hq g1 _ ⟨_, rfl⟩ F1.sz F1.1.1 fun Q2 hq2 => ?_
    refine t_M_meets (d := 137) I1.1.2.1 n1.1 hk hs (fun w2 => absurd w w2) fun _ g f e _ => ?_
    have R := I1.ms hm f (fun q z => by omega) fun i hi => e i (by omega)
    exact hq2 g R.1 R.2
theorem p_order {k : Int} (hk : i32 k) (hm : m = x + 161) (I : INV h x m o) : pr2 iV m_D_order m_M_order [.ref x, .int (iI k)] [.ref m, .int (iI k)] h x m o := fun Q1 hq => by
  obtain ⟨cA, cS, cT, cN, cF, cR, cP, cO, ⟨n, L, w, s, pl, n4, wc, pls, fw, link⟩, cK, cL⟩ := id I
  refine t_order (d := 137) cA.1.N cA.1.2.1.2.2.2.2.2.1 wc n4 hk ?_
  have eA : (if n = 0 ∨ k < 0 then (-1 : Int) else rioF n s k.toNat) = if n ≠ 0 ∧ oqI n k = true then ((rwD w L n k.toNat : Nat) : Int) else -1 := by
    by_cases c0 : n = 0
    · rw [if_pos (Or.inl c0), if_neg fun z => z.1 c0]
    · by_cases c1 : k < 0
      · have e : oqI n k = false := if_pos c1
        rw [if_pos (Or.inr c1), if_neg fun z => by rw [e] at z; cases z.2]
      · have e : oqI n k = oqF n n k.toNat 0 := if_neg c1
        rw [if_neg (fun z => z.elim c0 c1), (link c0).1, rio_eq (by omega), e]
        by_cases c2 : oqF n n k.toNat 0 = true
        · rw [if_pos c2, if_pos ⟨c0, c2⟩]
        · rw [if_neg c2, if_neg fun z => c2 z.2]
  rw [eA]
  refine hq h _ ⟨_, rfl⟩ ⟨rfl, rfl, rfl⟩ rfl fun Q2 hq2 => ?_
  refine t_M_order (D := 136) cA.2.1 fw hk (fun c g z => ?_) fun c1 c2 g f e _ => ?_
  · rw [if_neg c] at hq2
    exact hq2 g (I.mt hm z).1 (I.mt hm z).2
  · rw [if_pos ⟨c1, c2⟩] at hq2
    have R := I.ms hm f (fun q z => by omega) fun i hi => e i (by omega) (by omega)
    exact hq2 g R.1 R.2
theorem p_placed {a b : Int} (ha : i32 a) (hb : i32 b) (hm : m = x + 161) (I : INV h x m o) : pr2 iV m_D_placed m_M_placed [.ref x, .int (iI a), .int (iI b)] [.ref m, .int (iI a), .int (iI b)] h x m o := fun Q1 hq => by
  obtain ⟨cA, cS, cT, cN, cF, cR, cP, cO, ⟨n, L, w, s, pl, n4, wc, pls, fw, link⟩, cK, cL⟩ := id I
  refine t_placed (d := 138) cA.1.N cA.1.2.1.2.2.2.2.2.1 cA.1.2.2.2.2.2.1 wc.2.1 (by omega) pls ha hb (hq h _ ⟨_, rfl⟩ ⟨rfl, rfl, rfl⟩ rfl fun Q2 hq2 => ?_)
  refine t_M_placed (D := 136) cA.2.1 fw ha hb (fun c g z => ?_) fun c g f e _ => ?_
  · rw [if_neg c] at hq2
    exact hq2 g (I.mt hm z).1 (I.mt hm z).2
  · have lk := link (by omega)
    rw [if_pos c, lk.2 _ (by omega), lk.1, pl_eq (by omega) w L (by omega) (by omega)] at hq2
    have R := I.ms hm f (fun q z => by omega) fun i hi => e i (by omega) (by omega)
    exact hq2 g R.1 R.2
end PRS
