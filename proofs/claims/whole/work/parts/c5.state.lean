/-! pairs of calls that change the state -/
theorem srF_le {bt : Nat → Nat} {nm : Nat} : ∀ (k s : Nat) (b : Nat × Nat), k + s = nm → b.1 ≤ nm → (srF bt nm k s b).1 ≤ nm
  | 0, _, _, _, h => h
  | k + 1, s, b, e, h => by
    unfold srF
    refine srF_le k (s + 1) _ (by omega) ?_
    split
    · exact wbO_le (nm - 1) 1 _ _ (by omega)
    · exact h
theorem rg_le {bt : Nat → Nat} {nm : Nat} (hn : nm ≤ 12) : (rgF bt nm).1 ≤ 12 := Nat.le_trans (srF_le nm 0 (0, 0) (by omega) (Nat.zero_le _)) hn
/-- bits told one by one -/
def nfF (p : Nat → Bool) : Nat → Nat
  | 0 => 0
  | n + 1 => nfF p n ||| if p n = true then 2 ^ n else 0
theorem nfF_b {p : Nat → Bool} {j : Nat} : ∀ n, (nfF p n).testBit j = (decide (j < n) && p j)
  | 0 => by
    show (0 : Nat).testBit j = _
    rw [Nat.zero_testBit, decide_eq_false (Nat.not_lt_zero j)]
    rfl
  | n + 1 => by
    have e : nfF p (n + 1) = nfF p n ||| if p n = true then 2 ^ n else 0 := rfl
    rw [e, Nat.testBit_or, nfF_b n]
    by_cases c : j = n
    · rw [c, decide_eq_false (Nat.lt_irrefl n), decide_eq_true (Nat.lt_succ_self n)]
      cases x : p n with
      | true => rw [if_pos rfl, Nat.testBit_two_pow_self]; rfl
      | false => rw [if_neg Bool.false_ne_true, Nat.zero_testBit]; rfl
    · have e2 : (if p n = true then 2 ^ n else 0).testBit j = false := by
        split
        · rw [Nat.testBit_two_pow, decide_eq_false fun z => c z.symm]
        · exact Nat.zero_testBit j
      rw [e2, Bool.or_false]
      by_cases d : j < n
      · rw [decide_eq_true d, decide_eq_true (Nat.lt_succ_of_lt d)]
      · rw [decide_eq_false d, decide_eq_false (by omega)]
/-- the net of these NAMES -/
def nfB (V : Nat → RowVal) (nm i : Nat) : Nat := nfF (fun j => decide (i < nm ∧ j < nm ∧ pdn nm 0 i j ∧ (i < j ∧ 0 < ldV (V i).2.2.2 (V j).2.2.2 ∨ j < i ∧ ldV (V j).2.2.2 (V i).2.2.2 < 0))) nm
theorem nfB_ok {V : Nat → RowVal} {nm : Nat} (hn : nm ≤ 12) : ldP V nm (nfB V nm) := by
  have b : ∀ i j, (nfB V nm i).testBit j = decide (i < nm ∧ j < nm ∧ pdn nm 0 i j ∧ (i < j ∧ 0 < ldV (V i).2.2.2 (V j).2.2.2 ∨ j < i ∧ ldV (V j).2.2.2 (V i).2.2.2 < 0)) := fun i j => by
    unfold nfB
    rw [nfF_b]
    by_cases c : j < nm
    · rw [decide_eq_true c]
      rfl
    · rw [decide_eq_false c, decide_eq_false fun z => c z.2.1]
      rfl
  refine ⟨fun i _ => ?_, fun i _ j => b i j⟩
  refine Nat.lt_pow_two_of_testBit (n := 12) _ fun j hj => ?_
  rw [b, decide_eq_false fun z => ?_]
  omega
theorem gcF_c {T T2 : Nat → Int} : ∀ n, (∀ i, i < n → T i = T2 i) → gcF T n = gcF T2 n
  | 0, _ => rfl
  | n + 1, h => by
    show gcI (T n) (gcF T n) = gcI (T2 n) (gcF T2 n)
    rw [gcF_c n fun i hi => h i (by omega), h n (by omega)]
section PRT
variable {x m o : Nat} {h g : Hp}
theorem p_end {n : Int} (hn : i32 n) (hm : m = x + 161) (I : INV h x m o) : pr2 iV m_D_end m_M_end [.ref x, .int (iI n)] [.ref m, .int (iI n)] h x m o := fun Q1 hq => by
  obtain ⟨cA, cS, cT, cN, cF, cR, cP, cO, cG, cK, cL⟩ := id I
  obtain ⟨len, B, tD, tM⟩ := id cT
  refine t_end (d := 139) tD hn (fun w => ?_) fun w g1 f1 t1 ex => ?_
  · refine hq h _ ⟨_, rfl⟩ ⟨rfl, rfl, rfl⟩ rfl fun Q2 hq2 => ?_
    refine t_M_end (d := 139) cA.2.1 tM hn (fun _ g z => ?_) fun w2 => absurd w2 w
    exact hq2 g (I.mt hm z).1 (I.mt hm z).2
  · have F1 : fx x (fun q => q = x) h g1 := fx.of f1
    have aA : iA g1 x m o := iA.keep cA hm F1 (by rw [F1.1.2.2.2.2.2.1 m (by omega)])
    have aS : thS g1 x := iS.keep cS F1 (fun q z => by omega)
    have aN : jN g1 x m := jN.keep cN hm F1 (fun q z => by omega) (by rw [f1.2]) (ex 6 (by omega)) (by rw [F1.1.2.2.2.2.2.1 (x + 117) (by omega)])
    have aF : iF g1 x m := iF.keep cF (ex 4 (by omega)) (by rw [F1.1.2.2.2.2.2.1 m (by omega)])
    have aR : iR g1 x m := iR.keep cR F1 (fun q z => by omega) (by rw [F1.1.2.2.2.2.2.1 (x + 117) (by omega)]) (by rw [F1.1.2.2.2.2.2.1 m (by omega)])
    have aP : iP g1 x m := iP.keep cP F1 (fun q z => by omega)
    have aO : iO g1 x m := iO.keep cO F1 (fun q z => by omega) (by rw [F1.1.2.2.2.2.2.1 m (by omega)]) (by rw [F1.1.2.2.2.2.2.1 m (by omega)]) (by rw [F1.1.2.2.2.2.2.1 m (by omega)])
    have aG : iG g1 x m := iG.keep cG F1 (fun q z => by omega) (by rw [F1.1.2.2.2.2.2.1 m (by omega)]) (by rw [F1.1.2.2.2.2.2.1 m (by omega)])
    have aK : iK g1 x m := iK.keep cK F1 (fun q z => by omega) (by rw [F1.1.2.2.2.2.2.1 (x + 141) (by omega)]) (by rw [F1.1.2.2.2.2.2.1 m (by omega)])
    have aL : iL g1 x m := iL.keep cL F1 (fun q z => by omega)
    refine hq g1 _ ⟨_, rfl⟩ F1.sz F1.1.1 fun Q2 hq2 => ?_
    refine t_M_end (d := 139) aA.2.1 (tM.fx F1 (fun q z => by omega) (by rw [F1.1.2.2.2.2.2.1 m (by omega)])) hn (fun w2 => absurd w w2) fun _ g f2 t2 _ em => ?_
    have F2 : fx x (fun q => q = m) g1 g := fx.of f2
    refine hq2 g F2.sz ?_
    exact ⟨iA.keep aA hm F2 (em 7 (by omega) (by omega)), iS.keep aS F2 (fun q z => by omega), ⟨_, B, t1.fx F2 (fun q z => by omega) (by rw [F2.1.2.2.2.2.2.1 x (by omega)]), t2⟩, jN.keep aN hm F2 (fun q z => by omega) (by rw [F2.1.2.2.2.2.2.2.2 x (by omega)]) (by rw [F2.1.2.2.2.2.2.1 x (by omega)]) (by rw [F2.1.2.2.2.2.2.1 (x + 117) (by omega)]), iF.keep aF (by rw [F2.1.2.2.2.2.2.1 x (by omega)]) (em 21 (by omega) (by omega)), iR.keep aR F2 (fun q z => by omega) (by rw [F2.1.2.2.2.2.2.1 (x + 117) (by omega)]) (em 28 (by omega) (by omega)), iP.keep aP F2 (fun q z => by omega), iO.keep aO F2 (fun q z => by omega) (em 39 (by omega) (by omega)) (em 41 (by omega) (by omega)) (em 42 (by omega) (by omega)), iG.keep aG F2 (fun q z => by omega) (em 54 (by omega) (by omega)) (em 55 (by omega) (by omega)), iK.keep aK F2 (fun q z => by omega) (by rw [F2.1.2.2.2.2.2.1 (x + 141) (by omega)]) (em 56 (by omega) (by omega)), iL.keep aL F2 (fun q z => by omega)⟩
theorem p_feed {a b c e f : Int} (ha : i32 a) (hb : i32 b) (hc : i32 c) (he : i32 e) (hf : i32 f) (hm : m = x + 161) (I : INV h x m o) : pr2 iV m_D_feed m_M_feed [.ref x, .int (iI a), .int (iI b), .int (iI c), .int (iI e), .int (iI f)] [.ref m, .int (iI a), .int (iI b), .int (iI c), .int (iI e), .int (iI f)] h x m o := fun Q1 hq => by
  obtain ⟨cA, cS, cT, cN, cF, cR, cP, cO, cG, cK, cL⟩ := id I
  obtain ⟨len, B, tD, tM⟩ := id cT
  refine t_feed (d := 138) tD ha hb hc he hf (fun w => ?_) fun w g1 f1 t1 ex => ?_
  · refine hq h _ ⟨_, rfl⟩ ⟨rfl, rfl, rfl⟩ rfl fun Q2 hq2 => ?_
    refine t_M_feed (d := 138) cA.2.1 tM ha hb hc he hf (fun _ g z => ?_) fun w2 => absurd w (by omega)
    exact hq2 g (I.mt hm z).1 (I.mt hm z).2
  · have F1 : fx x (fun q => q = x ∨ q = x + 1) h g1 := fx.of f1
    have aA : iA g1 x m o := iA.keep cA hm F1 (by rw [F1.1.2.2.2.2.2.1 m (by omega)])
    have aS : thS g1 x := iS.keep cS F1 (fun q z => by omega)
    have aN : jN g1 x m := jN.keep cN hm F1 (fun q z => by omega) (by rw [f1.2]) (ex 6 (by omega)) (by rw [F1.1.2.2.2.2.2.1 (x + 117) (by omega)])
    have aF : iF g1 x m := iF.keep cF (ex 4 (by omega)) (by rw [F1.1.2.2.2.2.2.1 m (by omega)])
    have aR : iR g1 x m := iR.keep cR F1 (fun q z => by omega) (by rw [F1.1.2.2.2.2.2.1 (x + 117) (by omega)]) (by rw [F1.1.2.2.2.2.2.1 m (by omega)])
    have aP : iP g1 x m := iP.keep cP F1 (fun q z => by omega)
    have aO : iO g1 x m := iO.keep cO F1 (fun q z => by omega) (by rw [F1.1.2.2.2.2.2.1 m (by omega)]) (by rw [F1.1.2.2.2.2.2.1 m (by omega)]) (by rw [F1.1.2.2.2.2.2.1 m (by omega)])
    have aG : iG g1 x m := iG.keep cG F1 (fun q z => by omega) (by rw [F1.1.2.2.2.2.2.1 m (by omega)]) (by rw [F1.1.2.2.2.2.2.1 m (by omega)])
    have aK : iK g1 x m := iK.keep cK F1 (fun q z => by omega) (by rw [F1.1.2.2.2.2.2.1 (x + 141) (by omega)]) (by rw [F1.1.2.2.2.2.2.1 m (by omega)])
    have aL : iL g1 x m := iL.keep cL F1 (fun q z => by omega)
    refine hq g1 _ ⟨_, rfl⟩ F1.sz F1.1.1 fun Q2 hq2 => ?_
    refine t_M_feed (d := 138) aA.2.1 (tM.fx F1 (fun q z => by omega) (by rw [F1.1.2.2.2.2.2.1 m (by omega)])) ha hb hc he hf (fun w2 => absurd w (by omega)) fun _ g f2 t2 _ em => ?_
    have F2 : fx x (fun q => q = m ∨ q = m + 1) g1 g := fx.of f2
    refine hq2 g F2.sz ?_
    exact ⟨iA.keep aA hm F2 (em 7 (by omega) (by omega)), iS.keep aS F2 (fun q z => by omega), ⟨_, _, t1.fx F2 (fun q z => by omega) (by rw [F2.1.2.2.2.2.2.1 x (by omega)]), t2⟩, jN.keep aN hm F2 (fun q z => by omega) (by rw [F2.1.2.2.2.2.2.2.2 x (by omega)]) (by rw [F2.1.2.2.2.2.2.1 x (by omega)]) (by rw [F2.1.2.2.2.2.2.1 (x + 117) (by omega)]), iF.keep aF (by rw [F2.1.2.2.2.2.2.1 x (by omega)]) (em 21 (by omega) (by omega)), iR.keep aR F2 (fun q z => by omega) (by rw [F2.1.2.2.2.2.2.1 (x + 117) (by omega)]) (em 28 (by omega) (by omega)), iP.keep aP F2 (fun q z => by omega), iO.keep aO F2 (fun q z => by omega) (em 39 (by omega) (by omega)) (em 41 (by omega) (by omega)) (em 42 (by omega) (by omega)), iG.keep aG F2 (fun q z => by omega) (em 54 (by omega) (by omega)) (em 55 (by omega) (by omega)), iK.keep aK F2 (fun q z => by omega) (by rw [F2.1.2.2.2.2.2.1 (x + 141) (by omega)]) (em 56 (by omega) (by omega)), iL.keep aL F2 (fun q z => by omega)⟩
theorem p_rolled (hm : m = x + 161) (I : INV h x m o) : pr2 iV m_D_rolled m_M_rolled [.ref x] [.ref m] h x m o := fun Q1 hq => by
  obtain ⟨cA, cS, cT, cN, cF, cR, cP, cO, cG, cK, cL⟩ := id I
  obtain ⟨len, B, tD, tM⟩ := id cT
  obtain ⟨nm, F, V, fl, dn, nw, mN, fN, nN⟩ := id cN
  obtain ⟨t, to, nm0, va, st, tm, F0, Wd0, V0, Wd, c1, c2, c3, c4, c5, c6⟩ := id dn
  refine t_rolled (d := 137) tD c1 cA.1.2.1.2.2.2.2.2.2.2.1 c4 (by omega) (nm_F fN) c5 (nm_g mN) (nm_V mN fN) (fun w g1 f1 t1 ex => ?_) fun w g1 f1 t1 ex pp => ?_
  · have F1 : fx x (fun q => q = x) h g1 := fx.of f1
    have aA : iA g1 x m o := iA.keep cA hm F1 (by rw [F1.1.2.2.2.2.2.1 m (by omega)])
    have aS : thS g1 x := iS.keep cS F1 (fun q z => by omega)
    have aN : jN g1 x m := jN.keep cN hm F1 (fun q z => by omega) (by rw [f1.2]) (ex 6 (by omega)) (by rw [F1.1.2.2.2.2.2.1 (x + 117) (by omega)])
    have aF : iF g1 x m := iF.keep cF (ex 4 (by omega)) (by rw [F1.1.2.2.2.2.2.1 m (by omega)])
    have aR : iR g1 x m := iR.keep cR F1 (fun q z => by omega) (by rw [F1.1.2.2.2.2.2.1 (x + 117) (by omega)]) (by rw [F1.1.2.2.2.2.2.1 m (by omega)])
    have aP : iP g1 x m := iP.keep cP F1 (fun q z => by omega)
    have aO : iO g1 x m := iO.keep cO F1 (fun q z => by omega) (by rw [F1.1.2.2.2.2.2.1 m (by omega)]) (by rw [F1.1.2.2.2.2.2.1 m (by omega)]) (by rw [F1.1.2.2.2.2.2.1 m (by omega)])
    have aG : iG g1 x m := iG.keep cG F1 (fun q z => by omega) (by rw [F1.1.2.2.2.2.2.1 m (by omega)]) (by rw [F1.1.2.2.2.2.2.1 m (by omega)])
    have aK : iK g1 x m := iK.keep cK F1 (fun q z => by omega) (by rw [F1.1.2.2.2.2.2.1 (x + 141) (by omega)]) (by rw [F1.1.2.2.2.2.2.1 m (by omega)])
    have aL : iL g1 x m := iL.keep cL F1 (fun q z => by omega)
    have n1 := mNk ⟨mN, fN, nN⟩ F1 (fun q z => by omega)
    refine hq g1 _ ⟨_, rfl⟩ F1.sz F1.1.1 fun Q2 hq2 => ?_
    refine t_M_rolled (d := 138) aA.2.1 n1.1 (tM.fx F1 (fun q z => by omega) (by rw [F1.1.2.2.2.2.2.1 m (by omega)])) (nm_F fN) (nm_g mN) (nm_V mN fN) (fun _ g f2 t2 _ em => ?_) fun w2 => absurd w2 w
    have F2 : fx x (fun q => q = m) g1 g := fx.of f2
    refine hq2 g F2.sz ?_
    exact ⟨iA.keep aA hm F2 (em 7 (by omega) (by omega) (by omega) (by omega)), iS.keep aS F2 (fun q z => by omega), ⟨_, _, t1.fx F2 (fun q z => by omega) (by rw [F2.1.2.2.2.2.2.1 x (by omega)]), t2⟩, jN.keep aN hm F2 (fun q z => by omega) (by rw [F2.1.2.2.2.2.2.2.2 x (by omega)]) (by rw [F2.1.2.2.2.2.2.1 x (by omega)]) (by rw [F2.1.2.2.2.2.2.1 (x + 117) (by omega)]), iF.keep aF (by rw [F2.1.2.2.2.2.2.1 x (by omega)]) (em 21 (by omega) (by omega) (by omega) (by omega)), iR.keep aR F2 (fun q z => by omega) (by rw [F2.1.2.2.2.2.2.1 (x + 117) (by omega)]) (em 28 (by omega) (by omega) (by omega) (by omega)), iP.keep aP F2 (fun q z => by omega), iO.keep aO F2 (fun q z => by omega) (em 39 (by omega) (by omega) (by omega) (by omega)) (em 41 (by omega) (by omega) (by omega) (by omega)) (em 42 (by omega) (by omega) (by omega) (by omega)), iG.keep aG F2 (fun q z => by omega) (em 54 (by omega) (by omega) (by omega) (by omega)) (em 55 (by omega) (by omega) (by omega) (by omega)), iK.keep aK F2 (fun q z => by omega) (by rw [F2.1.2.2.2.2.2.1 (x + 141) (by omega)]) (em 56 (by omega) (by omega) (by omega) (by omega)), iL.keep aL F2 (fun q z => by omega)⟩
  · have F1 : fx x (fun q => q = x ∨ q = x + 153) h g1 := fx.of f1
    have aA : iA g1 x m o := iA.keep cA hm F1 (by rw [F1.1.2.2.2.2.2.1 m (by omega)])
    have aS : thS g1 x := iS.keep cS F1 (fun q z => by omega)
    have aN : jN g1 x m := jN.keep cN hm F1 (fun q z => by omega) (by rw [f1.2]) (ex 6 (by omega)) (by rw [F1.1.2.2.2.2.2.1 (x + 117) (by omega)])
    have aF : iF g1 x m := iF.keep cF (ex 4 (by omega)) (by rw [F1.1.2.2.2.2.2.1 m (by omega)])
    have aR : iR g1 x m := iR.keep cR F1 (fun q z => by omega) (by rw [F1.1.2.2.2.2.2.1 (x + 117) (by omega)]) (by rw [F1.1.2.2.2.2.2.1 m (by omega)])
    have aP : iP g1 x m := iP.keep cP F1 (fun q z => by omega)
    have aO : iO g1 x m := iO.keep cO F1 (fun q z => by omega) (by rw [F1.1.2.2.2.2.2.1 m (by omega)]) (by rw [F1.1.2.2.2.2.2.1 m (by omega)]) (by rw [F1.1.2.2.2.2.2.1 m (by omega)])
    have aG : iG g1 x m := iG.keep cG F1 (fun q z => by omega) (by rw [F1.1.2.2.2.2.2.1 m (by omega)]) (by rw [F1.1.2.2.2.2.2.1 m (by omega)])
    have aK : iK g1 x m := iK.keep cK F1 (fun q z => by omega) (by rw [F1.1.2.2.2.2.2.1 (x + 141) (by omega)]) (by rw [F1.1.2.2.2.2.2.1 m (by omega)])
    have n1 := mNk ⟨mN, fN, nN⟩ F1 (fun q z => by omega)
    refine hq g1 _ ⟨_, rfl⟩ F1.sz F1.1.1 fun Q2 hq2 => ?_
    refine t_M_rolled (d := 138) aA.2.1 n1.1 (tM.fx F1 (fun q z => by omega) (by rw [F1.1.2.2.2.2.2.1 m (by omega)])) (nm_F fN) (nm_g mN) (nm_V mN fN) (fun w2 => absurd w w2) fun _ g f2 t2 _ em p2 => ?_
    have F2 : fx x (fun q => q = m ∨ q = m + 34) g1 g := fx.of f2
    refine hq2 g F2.sz ?_
    exact ⟨iA.keep aA hm F2 (em 7 (by omega) (by omega) (by omega) (by omega)), iS.keep aS F2 (fun q z => by omega), ⟨_, _, t1.fx F2 (fun q z => by omega) (by rw [F2.1.2.2.2.2.2.1 x (by omega)]), t2⟩, jN.keep aN hm F2 (fun q z => by omega) (by rw [F2.1.2.2.2.2.2.2.2 x (by omega)]) (by rw [F2.1.2.2.2.2.2.1 x (by omega)]) (by rw [F2.1.2.2.2.2.2.1 (x + 117) (by omega)]), iF.keep aF (by rw [F2.1.2.2.2.2.2.1 x (by omega)]) (em 21 (by omega) (by omega) (by omega) (by omega)), iR.keep aR F2 (fun q z => by omega) (by rw [F2.1.2.2.2.2.2.1 (x + 117) (by omega)]) (em 28 (by omega) (by omega) (by omega) (by omega)), iP.keep aP F2 (fun q z => by omega), iO.keep aO F2 (fun q z => by omega) (em 39 (by omega) (by omega) (by omega) (by omega)) (em 41 (by omega) (by omega) (by omega) (by omega)) (em 42 (by omega) (by omega) (by omega) (by omega)), iG.keep aG F2 (fun q z => by omega) (em 54 (by omega) (by omega) (by omega) (by omega)) (em 55 (by omega) (by omega) (by omega) (by omega)), iK.keep aK F2 (fun q z => by omega) (by rw [F2.1.2.2.2.2.2.1 (x + 141) (by omega)]) (em 56 (by omega) (by omega) (by omega) (by omega)), ⟨_, fun i hi => ⟨by rw [F2.1.2.2.2.2.2.2.1 _ (by omega)]; exact pp i hi, p2 i hi⟩⟩⟩
theorem p_fair (hm : m = x + 161) (I : INV h x m o) : pr2 iV m_D_fair m_M_fair [.ref x] [.ref m] h x m o := fun Q1 hq => by
  obtain ⟨cA, cS, cT, cN, cF, cR, cP, cO, cG, cK, cL⟩ := id I
  obtain ⟨len, B, tD, tM⟩ := id cT
  refine t_fair (d := 136) tD cA.1.2.1.2.2.2.2.2.1 cA.1.2.2.2.2.2.1 (fun w g1 f1 t1 ex => ?_) fun n w g1 f1 t1 ex wc pp => ?_
  · have F1 : fx x (fun q => q = x) h g1 := fx.of f1
    have aA : iA g1 x m o := iA.keep cA hm F1 (by rw [F1.1.2.2.2.2.2.1 m (by omega)])
    have aS : thS g1 x := iS.keep cS F1 (fun q z => by omega)
    have aN : jN g1 x m := jN.keep cN hm F1 (fun q z => by omega) (by rw [f1.2]) (ex 6 (by omega)) (by rw [F1.1.2.2.2.2.2.1 (x + 117) (by omega)])
    have aF : iF g1 x m := iF.keep cF (ex 4 (by omega)) (by rw [F1.1.2.2.2.2.2.1 m (by omega)])
    have aR : iR g1 x m := iR.keep cR F1 (fun q z => by omega) (by rw [F1.1.2.2.2.2.2.1 (x + 117) (by omega)]) (by rw [F1.1.2.2.2.2.2.1 m (by omega)])
    have aP : iP g1 x m := iP.keep cP F1 (fun q z => by omega)
    have aO : iO g1 x m := iO.keep cO F1 (fun q z => by omega) (by rw [F1.1.2.2.2.2.2.1 m (by omega)]) (by rw [F1.1.2.2.2.2.2.1 m (by omega)]) (by rw [F1.1.2.2.2.2.2.1 m (by omega)])
    have aG : iG g1 x m := iG.keep cG F1 (fun q z => by omega) (by rw [F1.1.2.2.2.2.2.1 m (by omega)]) (by rw [F1.1.2.2.2.2.2.1 m (by omega)])
    have aK : iK g1 x m := iK.keep cK F1 (fun q z => by omega) (by rw [F1.1.2.2.2.2.2.1 (x + 141) (by omega)]) (by rw [F1.1.2.2.2.2.2.1 m (by omega)])
    have aL : iL g1 x m := iL.keep cL F1 (fun q z => by omega)
    refine hq g1 _ ⟨_, rfl⟩ F1.sz F1.1.1 fun Q2 hq2 => ?_
    refine t_M_fair (D := 135) aA.2.1 (tM.fx F1 (fun q z => by omega) (by rw [F1.1.2.2.2.2.2.1 m (by omega)])) (fun _ g f2 t2 _ em => ?_) fun n w2 => absurd w2 (w n)
    have F2 : fx x (fun q => q = m ∨ q = m + 27) g1 g := fx.of f2
    refine hq2 g F2.sz ?_
    exact ⟨iA.keep aA hm F2 (em 7 (by omega) (by omega) (by omega) (by omega) (by omega)), iS.keep aS F2 (fun q z => by omega), ⟨_, _, t1.fx F2 (fun q z => by omega) (by rw [F2.1.2.2.2.2.2.1 x (by omega)]), t2⟩, jN.keep aN hm F2 (fun q z => by omega) (by rw [F2.1.2.2.2.2.2.2.2 x (by omega)]) (by rw [F2.1.2.2.2.2.2.1 x (by omega)]) (by rw [F2.1.2.2.2.2.2.1 (x + 117) (by omega)]), iF.keep aF (by rw [F2.1.2.2.2.2.2.1 x (by omega)]) (em 21 (by omega) (by omega) (by omega) (by omega) (by omega)), iR.keep aR F2 (fun q z => by omega) (by rw [F2.1.2.2.2.2.2.1 (x + 117) (by omega)]) (em 28 (by omega) (by omega) (by omega) (by omega) (by omega)), iP.keep aP F2 (fun q z => by omega), iO.keep aO F2 (fun q z => by omega) (em 39 (by omega) (by omega) (by omega) (by omega) (by omega)) (em 41 (by omega) (by omega) (by omega) (by omega) (by omega)) (em 42 (by omega) (by omega) (by omega) (by omega) (by omega)), iG.keep aG F2 (fun q z => by omega) (em 54 (by omega) (by omega) (by omega) (by omega) (by omega)) (em 55 (by omega) (by omega) (by omega) (by omega) (by omega)), iK.keep aK F2 (fun q z => by omega) (by rw [F2.1.2.2.2.2.2.1 (x + 141) (by omega)]) (em 56 (by omega) (by omega) (by omega) (by omega) (by omega)), iL.keep aL F2 (fun q z => by omega)⟩
  · have F1 : fx x (fun q => q = x ∨ x + 135 ≤ q ∧ q ≤ x + 135 + 5) h g1 := fx.of f1
    have aA : iA g1 x m o := iA.keep cA hm F1 (by rw [F1.1.2.2.2.2.2.1 m (by omega)])
    have aS : thS g1 x := iS.keep cS F1 (fun q z => by omega)
    have aN : jN g1 x m := jN.keep cN hm F1 (fun q z => by omega) (by rw [f1.2]) (ex 6 (by omega)) (by rw [F1.1.2.2.2.2.2.1 (x + 117) (by omega)])
    have aF : iF g1 x m := iF.keep cF (ex 4 (by omega)) (by rw [F1.1.2.2.2.2.2.1 m (by omega)])
    have aR : iR g1 x m := iR.keep cR F1 (fun q z => by omega) (by rw [F1.1.2.2.2.2.2.1 (x + 117) (by omega)]) (by rw [F1.1.2.2.2.2.2.1 m (by omega)])
    have aP : iP g1 x m := iP.keep cP F1 (fun q z => by omega)
    have aO : iO g1 x m := iO.keep cO F1 (fun q z => by omega) (by rw [F1.1.2.2.2.2.2.1 m (by omega)]) (by rw [F1.1.2.2.2.2.2.1 m (by omega)]) (by rw [F1.1.2.2.2.2.2.1 m (by omega)])
    have aK : iK g1 x m := iK.keep cK F1 (fun q z => by omega) (by rw [F1.1.2.2.2.2.2.1 (x + 141) (by omega)]) (by rw [F1.1.2.2.2.2.2.1 m (by omega)])
    have aL : iL g1 x m := iL.keep cL F1 (fun q z => by omega)
    refine hq g1 _ ⟨_, rfl⟩ F1.sz F1.1.1 fun Q2 hq2 => ?_
    refine t_M_fair (D := 135) aA.2.1 (tM.fx F1 (fun q z => by omega) (by rw [F1.1.2.2.2.2.2.1 m (by omega)])) (fun w2 => absurd w (w2 n)) fun n2 w2 g a b c f2 t2 _ em fw ha hb hc => ?_
    have en : n2 = n := by
      have q1 := w.2.2.2.1
      have q2 := w2.2.2.2.1
      omega
    subst en
    have F2 : fx x (fun q => q = m ∨ q = m + 27 ∨ q = m + 28 ∨ q = m + 30 ∨ q = m + 33) g1 g := fx.of f2
    have n4 : 2 ≤ n2 ∧ n2 ≤ 4 := ⟨w.1, w.2.1⟩
    rw [lt_ls] at hq2 wc pp
    rw [fb_eq n4 _ _ ha hb hc]
    refine hq2 g F2.sz ?_
    have wc2 : wcC g (x + 135) n2 (wcR n2 (lstW (ltB B) len)) := by
      obtain ⟨b1, b2, b3, b4, b5, b6⟩ := wc
      have J : ∀ q, x + 135 ≤ q → q < x + 141 → zI g q = zI g1 q := fun q a b => F2.1.2.2.2.2.2.1 _ (by omega)
      refine ⟨b1.fx F2 (by omega) (by omega), ?_, fun i hi => ?_, fun i hi => ?_, fun i hi => ?_, fun i hi => ?_⟩
      · rw [J _ (by omega) (by omega)]; exact b2
      · rw [J _ (by omega) (by omega)]; exact b3 i hi
      · rw [J _ (by omega) (by omega)]; exact b4 i hi
      · rw [J _ (by omega) (by omega)]; exact b5 i hi
      · rw [J _ (by omega) (by omega)]; exact b6 i hi
    exact ⟨iA.keep aA hm F2 (em 7 (by omega) (by omega) (by omega) (by omega) (by omega) (by omega) (by omega)), iS.keep aS F2 (fun q z => by omega), ⟨_, _, t1.fx F2 (fun q z => by omega) (by rw [F2.1.2.2.2.2.2.1 x (by omega)]), t2⟩, jN.keep aN hm F2 (fun q z => by omega) (by rw [F2.1.2.2.2.2.2.2.2 x (by omega)]) (by rw [F2.1.2.2.2.2.2.1 x (by omega)]) (by rw [F2.1.2.2.2.2.2.1 (x + 117) (by omega)]), iF.keep aF (by rw [F2.1.2.2.2.2.2.1 x (by omega)]) (em 21 (by omega) (by omega) (by omega) (by omega) (by omega) (by omega) (by omega)), iR.keep aR F2 (fun q z => by omega) (by rw [F2.1.2.2.2.2.2.1 (x + 117) (by omega)]) (em 28 (by omega) (by omega) (by omega) (by omega) (by omega) (by omega) (by omega)), iP.keep aP F2 (fun q z => by omega), iO.keep aO F2 (fun q z => by omega) (em 39 (by omega) (by omega) (by omega) (by omega) (by omega) (by omega) (by omega)) (em 41 (by omega) (by omega) (by omega) (by omega) (by omega) (by omega) (by omega)) (em 42 (by omega) (by omega) (by omega) (by omega) (by omega) (by omega) (by omega)), ⟨n2, len, ltB B, _, _, Or.inr n4, wc2, fun i hi => by rw [F2.1.2.2.2.2.2.1 _ (by omega)]; exact pp i hi, fw, fun _ => ⟨rfl, fun _ _ => rfl⟩⟩, iK.keep aK F2 (fun q z => by omega) (by rw [F2.1.2.2.2.2.2.1 (x + 141) (by omega)]) (em 56 (by omega) (by omega) (by omega) (by omega) (by omega) (by omega) (by omega)), iL.keep aL F2 (fun q z => by omega)⟩
theorem p_threes (hm : m = x + 161) (I : INV h x m o) : pr2 iV m_D_threes m_M_threes [.ref x] [.ref m] h x m o := fun Q1 hq => by
  obtain ⟨cA, cS, cT, cN, cF, cR, cP, cO, cG, cK, cL⟩ := id I
  obtain ⟨nm, F, V, fl, dn, nw, mN, fN, nN⟩ := id cN
  obtain ⟨t, to, nm0, va, st, tm, F0, Wd0, V0, Wd, c1, c2, c3, c4, c5, c6⟩ := id dn
  have n12 := mN.2.1
  refine t_threes (d := 135) cA.1.N c1 c4 c5 (nm_L mN) nw (by omega) fun g1 bt f1 ex e6 e3 nc lp => ?_
  have F1 : fx x (fun q => q = x ∨ q = x + 117 ∨ q = x + 118) h g1 := fx.of f1
  have aA : iA g1 x m o := iA.keep cA hm F1 (by rw [F1.1.2.2.2.2.2.1 m (by omega)])
  have aS : thS g1 x := iS.keep cS F1 (fun q z => by omega)
  have aT : iT g1 x m := iT.keep cT F1 (fun q z => by omega) (ex 1 (by omega)) (by rw [F1.1.2.2.2.2.2.1 m (by omega)])
  have aF : iF g1 x m := iF.keep cF (ex 4 (by omega)) (by rw [F1.1.2.2.2.2.2.1 m (by omega)])
  have aR : iR g1 x m := iR.keep cR F1 (fun q z => by omega) e3 (by rw [F1.1.2.2.2.2.2.1 m (by omega)])
  have aP : iP g1 x m := iP.keep cP F1 (fun q z => by omega)
  have aO : iO g1 x m := iO.keep cO F1 (fun q z => by omega) (by rw [F1.1.2.2.2.2.2.1 m (by omega)]) (by rw [F1.1.2.2.2.2.2.1 m (by omega)]) (by rw [F1.1.2.2.2.2.2.1 m (by omega)])
  have aG : iG g1 x m := iG.keep cG F1 (fun q z => by omega) (by rw [F1.1.2.2.2.2.2.1 m (by omega)]) (by rw [F1.1.2.2.2.2.2.1 m (by omega)])
  have aK : iK g1 x m := iK.keep cK F1 (fun q z => by omega) (by rw [F1.1.2.2.2.2.2.1 (x + 141) (by omega)]) (by rw [F1.1.2.2.2.2.2.1 m (by omega)])
  have aL : iL g1 x m := iL.keep cL F1 (fun q z => by omega)
  have n1 := mNk ⟨mN, fN, nN⟩ F1 (fun q z => by omega)
  have aN : jN g1 x m := ⟨nm, F, V, fl, dn.keep F1.1 (fun q z => by omega) (by rw [f1.2]), ⟨by rw [f1.2]; exact nw.1, nc.1, Or.inr ⟨e6, bt, nc, lp⟩⟩, n1.1, n1.2.1, n1.2.2⟩
  have I1 : INV g1 x m o := ⟨aA, aS, aT, aN, aF, aR, aP, aO, aG, aK, aL⟩
  refine hq g1 _ ⟨_, rfl⟩ F1.sz F1.1.1 fun Q2 hq2 => ?_
  refine t_M_threes (d := 139) aA.2.1 n1.1.1 n12 (net_mt n12 lp n1.2.2) (ld_bt n12 lp) fun g z => ?_
  exact hq2 g (I1.mt hm z).1 (I1.mt hm z).2
theorem p_anyTwo (hm : m = x + 161) (I : INV h x m o) : pr2 iV m_D_anyTwo m_M_anyTwo [.ref x] [.ref m] h x m o := fun Q1 hq => by
  obtain ⟨cA, cS, cT, cN, cF, cR, cP, cO, cG, cK, cL⟩ := id I
  obtain ⟨nm, F, V, fl, dn, nw, mN, fN, nN⟩ := id cN
  obtain ⟨t, to, nm0, va, st, tm, F0, Wd0, V0, Wd, c1, c2, c3, c4, c5, c6⟩ := id dn
  have n12 := mN.2.1
  refine t_anyTwo (d := 135) cA.1.N c1 c4 c5 (nm_L mN) nw (by omega) fun g1 bt f1 ex e6 e3 nc lp => ?_
  have F1 : fx x (fun q => q = x ∨ q = x + 117 ∨ q = x + 118) h g1 := fx.of f1
  have aA : iA g1 x m o := iA.keep cA hm F1 (by rw [F1.1.2.2.2.2.2.1 m (by omega)])
  have aS : thS g1 x := iS.keep cS F1 (fun q z => by omega)
  have aT : iT g1 x m := iT.keep cT F1 (fun q z => by omega) (ex 1 (by omega)) (by rw [F1.1.2.2.2.2.2.1 m (by omega)])
  have aF : iF g1 x m := iF.keep cF (ex 4 (by omega)) (by rw [F1.1.2.2.2.2.2.1 m (by omega)])
  have aR : iR g1 x m := iR.keep cR F1 (fun q z => by omega) e3 (by rw [F1.1.2.2.2.2.2.1 m (by omega)])
  have aP : iP g1 x m := iP.keep cP F1 (fun q z => by omega)
  have aO : iO g1 x m := iO.keep cO F1 (fun q z => by omega) (by rw [F1.1.2.2.2.2.2.1 m (by omega)]) (by rw [F1.1.2.2.2.2.2.1 m (by omega)]) (by rw [F1.1.2.2.2.2.2.1 m (by omega)])
  have aG : iG g1 x m := iG.keep cG F1 (fun q z => by omega) (by rw [F1.1.2.2.2.2.2.1 m (by omega)]) (by rw [F1.1.2.2.2.2.2.1 m (by omega)])
  have aK : iK g1 x m := iK.keep cK F1 (fun q z => by omega) (by rw [F1.1.2.2.2.2.2.1 (x + 141) (by omega)]) (by rw [F1.1.2.2.2.2.2.1 m (by omega)])
  have aL : iL g1 x m := iL.keep cL F1 (fun q z => by omega)
  have n1 := mNk ⟨mN, fN, nN⟩ F1 (fun q z => by omega)
  have aN : jN g1 x m := ⟨nm, F, V, fl, dn.keep F1.1 (fun q z => by omega) (by rw [f1.2]), ⟨by rw [f1.2]; exact nw.1, nc.1, Or.inr ⟨e6, bt, nc, lp⟩⟩, n1.1, n1.2.1, n1.2.2⟩
  have I1 : INV g1 x m o := ⟨aA, aS, aT, aN, aF, aR, aP, aO, aG, aK, aL⟩
  refine hq g1 _ ⟨_, rfl⟩ F1.sz F1.1.1 fun Q2 hq2 => ?_
  refine t_M_anyTwo (d := 139) aA.2.1 n1.1.1 n12 (net_mt n12 lp n1.2.2) fun g z => ?_
  exact hq2 g (I1.mt hm z).1 (I1.mt hm z).2
theorem p_top (hm : m = x + 161) (I : INV h x m o) : pr2 iV m_D_top m_M_top [.ref x] [.ref m] h x m o := fun Q1 hq => by
  obtain ⟨cA, cS, cT, cN, cF, cR, cP, cO, cG, cK, cL⟩ := id I
  obtain ⟨nm, F, V, fl, dn, nw, mN, fN, nN⟩ := id cN
  obtain ⟨t, to, nm0, va, st, tm, F0, Wd0, V0, Wd, c1, c2, c3, c4, c5, c6⟩ := id dn
  have n12 := mN.2.1
  refine t_top (d := 135) cA.1.N c1 c4 c5 (nm_L mN) nw (by omega) fun g1 bt f1 ex e6 e3 nc lp => ?_
  have F1 : fx x (fun q => q = x ∨ q = x + 117 ∨ q = x + 118) h g1 := fx.of f1
  have aA : iA g1 x m o := iA.keep cA hm F1 (by rw [F1.1.2.2.2.2.2.1 m (by omega)])
  have aS : thS g1 x := iS.keep cS F1 (fun q z => by omega)
  have aT : iT g1 x m := iT.keep cT F1 (fun q z => by omega) (ex 1 (by omega)) (by rw [F1.1.2.2.2.2.2.1 m (by omega)])
  have aF : iF g1 x m := iF.keep cF (ex 4 (by omega)) (by rw [F1.1.2.2.2.2.2.1 m (by omega)])
  have aR : iR g1 x m := iR.keep cR F1 (fun q z => by omega) e3 (by rw [F1.1.2.2.2.2.2.1 m (by omega)])
  have aP : iP g1 x m := iP.keep cP F1 (fun q z => by omega)
  have aO : iO g1 x m := iO.keep cO F1 (fun q z => by omega) (by rw [F1.1.2.2.2.2.2.1 m (by omega)]) (by rw [F1.1.2.2.2.2.2.1 m (by omega)]) (by rw [F1.1.2.2.2.2.2.1 m (by omega)])
  have aG : iG g1 x m := iG.keep cG F1 (fun q z => by omega) (by rw [F1.1.2.2.2.2.2.1 m (by omega)]) (by rw [F1.1.2.2.2.2.2.1 m (by omega)])
  have aK : iK g1 x m := iK.keep cK F1 (fun q z => by omega) (by rw [F1.1.2.2.2.2.2.1 (x + 141) (by omega)]) (by rw [F1.1.2.2.2.2.2.1 m (by omega)])
  have aL : iL g1 x m := iL.keep cL F1 (fun q z => by omega)
  have n1 := mNk ⟨mN, fN, nN⟩ F1 (fun q z => by omega)
  have aN : jN g1 x m := ⟨nm, F, V, fl, dn.keep F1.1 (fun q z => by omega) (by rw [f1.2]), ⟨by rw [f1.2]; exact nw.1, nc.1, Or.inr ⟨e6, bt, nc, lp⟩⟩, n1.1, n1.2.1, n1.2.2⟩
  have I1 : INV g1 x m o := ⟨aA, aS, aT, aN, aF, aR, aP, aO, aG, aK, aL⟩
  refine hq g1 _ ⟨_, rfl⟩ F1.sz F1.1.1 fun Q2 hq2 => ?_
  refine t_M_top (d := 138) aA.2.1 n1.1.1 n12 (net_mt n12 lp n1.2.2) (ld_bt n12 lp) fun g z => ?_
  rw [tp_eq n12 (ld_bt n12 lp)]
  exact hq2 g (I1.mt hm z).1 (I1.mt hm z).2
theorem p_beaten {a : Int} (ha : i32 a) (hm : m = x + 161) (I : INV h x m o) : pr2 iV m_D_beaten m_M_beaten [.ref x, .int (iI a)] [.ref m, .int (iI a)] h x m o := fun Q1 hq => by
  obtain ⟨cA, cS, cT, cN, cF, cR, cP, cO, cG, cK, cL⟩ := id I
  obtain ⟨nm, F, V, fl, dn, nw, mN, fN, nN⟩ := id cN
  obtain ⟨t, to, nm0, va, st, tm, F0, Wd0, V0, Wd, c1, c2, c3, c4, c5, c6⟩ := id dn
  have n12 := mN.2.1
  refine t_beaten (d := 135) cA.1.N c1 c4 c5 (nm_L mN) nw (by omega) ha (fun w => ?_) fun w g1 bt f1 ex e6 e3 nc lp => ?_
  · refine hq h _ ⟨_, rfl⟩ ⟨rfl, rfl, rfl⟩ rfl fun Q2 hq2 => ?_
    have mx : mtN h m nm (fun i => nfB V nm i) := net_mt n12 (nfB_ok n12) nN
    refine t_M_beaten (d := 137) cA.2.1 mN.1 n12 mx (ld_bt n12 (nfB_ok n12)) ha fun g z => ?_
    rw [if_neg w]
    exact hq2 g (I.mt hm z).1 (I.mt hm z).2
  have F1 : fx x (fun q => q = x ∨ q = x + 117 ∨ q = x + 118) h g1 := fx.of f1
  have aA : iA g1 x m o := iA.keep cA hm F1 (by rw [F1.1.2.2.2.2.2.1 m (by omega)])
  have aS : thS g1 x := iS.keep cS F1 (fun q z => by omega)
  have aT : iT g1 x m := iT.keep cT F1 (fun q z => by omega) (ex 1 (by omega)) (by rw [F1.1.2.2.2.2.2.1 m (by omega)])
  have aF : iF g1 x m := iF.keep cF (ex 4 (by omega)) (by rw [F1.1.2.2.2.2.2.1 m (by omega)])
  have aR : iR g1 x m := iR.keep cR F1 (fun q z => by omega) e3 (by rw [F1.1.2.2.2.2.2.1 m (by omega)])
  have aP : iP g1 x m := iP.keep cP F1 (fun q z => by omega)
  have aO : iO g1 x m := iO.keep cO F1 (fun q z => by omega) (by rw [F1.1.2.2.2.2.2.1 m (by omega)]) (by rw [F1.1.2.2.2.2.2.1 m (by omega)]) (by rw [F1.1.2.2.2.2.2.1 m (by omega)])
  have aG : iG g1 x m := iG.keep cG F1 (fun q z => by omega) (by rw [F1.1.2.2.2.2.2.1 m (by omega)]) (by rw [F1.1.2.2.2.2.2.1 m (by omega)])
  have aK : iK g1 x m := iK.keep cK F1 (fun q z => by omega) (by rw [F1.1.2.2.2.2.2.1 (x + 141) (by omega)]) (by rw [F1.1.2.2.2.2.2.1 m (by omega)])
  have aL : iL g1 x m := iL.keep cL F1 (fun q z => by omega)
  have n1 := mNk ⟨mN, fN, nN⟩ F1 (fun q z => by omega)
  have aN : jN g1 x m := ⟨nm, F, V, fl, dn.keep F1.1 (fun q z => by omega) (by rw [f1.2]), ⟨by rw [f1.2]; exact nw.1, nc.1, Or.inr ⟨e6, bt, nc, lp⟩⟩, n1.1, n1.2.1, n1.2.2⟩
  have I1 : INV g1 x m o := ⟨aA, aS, aT, aN, aF, aR, aP, aO, aG, aK, aL⟩
  refine hq g1 _ ⟨_, rfl⟩ F1.sz F1.1.1 fun Q2 hq2 => ?_
  refine t_M_beaten (d := 137) aA.2.1 n1.1.1 n12 (net_mt n12 lp n1.2.2) (ld_bt n12 lp) ha fun g z => ?_
  rw [if_pos w]
  exact hq2 g (I1.mt hm z).1 (I1.mt hm z).2
theorem p_ring (hm : m = x + 161) (I : INV h x m o) : pr2 iV m_D_ring m_M_ring [.ref x] [.ref m] h x m o := fun Q1 hq => by
  obtain ⟨cA, cS, cT, cN, cF, cR, cP, cO, cG, cK, cL⟩ := id I
  obtain ⟨nm, F, V, fl, dn, nw, mN, fN, nN⟩ := id cN
  obtain ⟨t, to, nm0, va, st, tm, F0, Wd0, V0, Wd, c1, c2, c3, c4, c5, c6⟩ := id dn
  have n12 := mN.2.1
  refine t_ring (d := 134) cA.1.N c1 c4 c5 (nm_L mN) nw (by omega) (fun g1 bt lp r0 f1 ex e6 e3 nc => ?_) fun g1 bt lp r0 f1 ex e6 e3 rr nc => ?_
  · have F1 : fx x (fun q => (q = x ∨ q = x + 117 ∨ q = x + 118) ∨ q = x + 119) h g1 := fx.of f1
    have aA : iA g1 x m o := iA.keep cA hm F1 (by rw [F1.1.2.2.2.2.2.1 m (by omega)])
    have aS : thS g1 x := iS.keep cS F1 (fun q z => by omega)
    have aT : iT g1 x m := iT.keep cT F1 (fun q z => by omega) (ex 1 (by omega)) (by rw [F1.1.2.2.2.2.2.1 m (by omega)])
    have aF : iF g1 x m := iF.keep cF (ex 4 (by omega)) (by rw [F1.1.2.2.2.2.2.1 m (by omega)])
    have aR : iR g1 x m := iR.keep cR F1 (fun q z => by omega) e3 (by rw [F1.1.2.2.2.2.2.1 m (by omega)])
    have aP : iP g1 x m := iP.keep cP F1 (fun q z => by omega)
    have aO : iO g1 x m := iO.keep cO F1 (fun q z => by omega) (by rw [F1.1.2.2.2.2.2.1 m (by omega)]) (by rw [F1.1.2.2.2.2.2.1 m (by omega)]) (by rw [F1.1.2.2.2.2.2.1 m (by omega)])
    have aG : iG g1 x m := iG.keep cG F1 (fun q z => by omega) (by rw [F1.1.2.2.2.2.2.1 m (by omega)]) (by rw [F1.1.2.2.2.2.2.1 m (by omega)])
    have aK : iK g1 x m := iK.keep cK F1 (fun q z => by omega) (by rw [F1.1.2.2.2.2.2.1 (x + 141) (by omega)]) (by rw [F1.1.2.2.2.2.2.1 m (by omega)])
    have aL : iL g1 x m := iL.keep cL F1 (fun q z => by omega)
    have n1 := mNk ⟨mN, fN, nN⟩ F1 (fun q z => by omega)
    have aN : jN g1 x m := ⟨nm, F, V, fl, dn.keep F1.1 (fun q z => by omega) (by rw [f1.2]), ⟨by rw [f1.2]; exact nw.1, nc.1, Or.inr ⟨e6, bt, nc, lp⟩⟩, n1.1, n1.2.1, n1.2.2⟩
    have I1 : INV g1 x m o := ⟨aA, aS, aT, aN, aF, aR, aP, aO, aG, aK, aL⟩
    refine hq g1 _ ⟨_, rfl⟩ F1.sz F1.1.1 fun Q2 hq2 => ?_
    refine t_M_ring (d := 138) aA.2.1 n1.1.1 n12 (net_mt n12 lp n1.2.2) (ld_bt n12 lp) (fun _ g f2 em _ => ?_) fun r2 => absurd r0 r2
    have R := I1.ms hm f2 (fun q z => by omega) fun i hi => em i (by omega)
    exact hq2 g R.1 R.2
  · have F1 : fx x (fun q => (q = x ∨ q = x + 117 ∨ q = x + 118) ∨ q = x + 119 ∨ q = x + 120) h g1 := fx.of f1
    have aA : iA g1 x m o := iA.keep cA hm F1 (by rw [F1.1.2.2.2.2.2.1 m (by omega)])
    have aS : thS g1 x := iS.keep cS F1 (fun q z => by omega)
    have aT : iT g1 x m := iT.keep cT F1 (fun q z => by omega) (ex 1 (by omega)) (by rw [F1.1.2.2.2.2.2.1 m (by omega)])
    have aF : iF g1 x m := iF.keep cF (ex 4 (by omega)) (by rw [F1.1.2.2.2.2.2.1 m (by omega)])
    have aP : iP g1 x m := iP.keep cP F1 (fun q z => by omega)
    have aO : iO g1 x m := iO.keep cO F1 (fun q z => by omega) (by rw [F1.1.2.2.2.2.2.1 m (by omega)]) (by rw [F1.1.2.2.2.2.2.1 m (by omega)]) (by rw [F1.1.2.2.2.2.2.1 m (by omega)])
    have aG : iG g1 x m := iG.keep cG F1 (fun q z => by omega) (by rw [F1.1.2.2.2.2.2.1 m (by omega)]) (by rw [F1.1.2.2.2.2.2.1 m (by omega)])
    have aK : iK g1 x m := iK.keep cK F1 (fun q z => by omega) (by rw [F1.1.2.2.2.2.2.1 (x + 141) (by omega)]) (by rw [F1.1.2.2.2.2.2.1 m (by omega)])
    have aL : iL g1 x m := iL.keep cL F1 (fun q z => by omega)
    have n1 := mNk ⟨mN, fN, nN⟩ F1 (fun q z => by omega)
    have nw1 : nwS g1 x nm V := ⟨by rw [f1.2]; exact nw.1, nc.1, Or.inr ⟨e6, bt, nc, lp⟩⟩
    have dn1 := dn.keep F1.1 (fun q z => by omega) (by rw [f1.2])
    have aN : jN g1 x m := ⟨nm, F, V, fl, dn1, nw1, n1.1, n1.2.1, n1.2.2⟩
    refine hq g1 _ ⟨_, rfl⟩ F1.sz F1.1.1 fun Q2 hq2 => ?_
    refine t_M_ring (d := 138) aA.2.1 n1.1.1 n12 (net_mt n12 lp n1.2.2) (ld_bt n12 lp) (fun r2 => absurd r2 r0) fun _ g f2 em _ e28 r2 => ?_
    have F2 : fx x (fun q => q = m ∨ q = m + 15 ∨ q = m + 16) g1 g := fx.of f2
    have rl := rg_le n12 (bt := bt)
    refine hq2 g F2.sz ?_
    exact ⟨iA.keep aA hm F2 (em 7 (by omega) (by omega)), iS.keep aS F2 (fun q z => by omega), iT.keep aT F2 (fun q z => by omega) (by rw [F2.1.2.2.2.2.2.1 x (by omega)]) (em 2 (by omega) (by omega)), jN.keep aN hm F2 (fun q z => by omega) (by rw [F2.1.2.2.2.2.2.2.2 x (by omega)]) (by rw [F2.1.2.2.2.2.2.1 x (by omega)]) (by rw [F2.1.2.2.2.2.2.1 (x + 117) (by omega)]), iF.keep aF (by rw [F2.1.2.2.2.2.2.1 x (by omega)]) (em 21 (by omega) (by omega)), ⟨_, _, rl, by rw [F2.1.2.2.2.2.2.1 _ (by omega)]; exact e3, e28, fun i hi => ⟨by rw [F2.1.2.2.2.2.2.1 _ (by omega)]; exact rr i hi, r2 i hi⟩⟩, iP.keep aP F2 (fun q z => by omega), iO.keep aO F2 (fun q z => by omega) (em 39 (by omega) (by omega)) (em 41 (by omega) (by omega)) (em 42 (by omega) (by omega)), iG.keep aG F2 (fun q z => by omega) (em 54 (by omega) (by omega)) (em 55 (by omega) (by omega)), iK.keep aK F2 (fun q z => by omega) (by rw [F2.1.2.2.2.2.2.1 (x + 141) (by omega)]) (em 56 (by omega) (by omega)), iL.keep aL F2 (fun q z => by omega)⟩
theorem p_picks {s : Int} (hs : i32 s) (hm : m = x + 161) (I : INV h x m o) : pr2 iV m_D_picks m_M_picks [.ref x, .int (iI s)] [.ref m, .int (iI s)] h x m o := fun Q1 hq => by
  obtain ⟨cA, cS, cT, cN, cF, cR, cP, cO, cG, cK, cL⟩ := id I
  obtain ⟨nm, F, V, fl, dn, nw, mN, fN, nN⟩ := id cN
  obtain ⟨t, to, nm0, va, st, tm, F0, Wd0, V0, Wd, c1, c2, c3, c4, c5, c6⟩ := id dn
  have n12 := mN.2.1
  refine t_picks (d := 129) cA.1.N c1 cA.1.2.1.2.2.2.1 cA.1.2.2.2.1 c4 c5 (nm_L mN) nw (by omega) hs (fun w => ?_) (fun w g1 bt nG ev g2 f2 => ?_) (fun w g1 bt nG ne nh g2 f2 => ?_) fun w g1 bt nG ne hd T h1 h2 gd mn g2 f2 sh1 sh0 => ?_
  · refine hq h _ ⟨_, rfl⟩ ⟨rfl, rfl, rfl⟩ rfl fun Q2 hq2 => ?_
    refine t_M_picks (d := 136) cA.2.1 mN.1 n12 (net_mt n12 (nfB_ok n12) nN) (ld_bt n12 (nfB_ok n12)) hs (fun _ g z => ?_) (fun w2 => absurd w2 w) (fun w2 => absurd w2 w) fun w2 => absurd w2 w
    exact hq2 g (I.mt hm z).1 (I.mt hm z).2
  · obtain ⟨f1, ex, e6, e3, nc, lp⟩ := nG
    have F1 : fx x (fun q => q = x ∨ q = x + 117 ∨ q = x + 118 ∨ (x + 121 ≤ q ∧ q ≤ x + 124)) h g2 := ((fx.of (x := x) f1).wk (fun q z => by rcases z with z | z | z <;> omega)).tr ((fx.of (x := x) f2).wk fun q z => by omega)
    have ex2 : ∀ i, i ≠ 6 → zI g2 x i = zI h x i := fun i hi => by rw [f2.1.2.2.2.2.2.1 x (by omega)]; exact ex i hi
    have e62 : zI g2 x 6 = iI 0 := by rw [f2.1.2.2.2.2.2.1 x (by omega)]; exact e6
    have e32 : zI g2 (x + 117) 3 = zI h (x + 117) 3 := by rw [f2.1.2.2.2.2.2.1 (x + 117) (by omega)]; exact e3
    have rr2 : zR g2 = zR h := by rw [f2.2, f1.2]
    have nc2 : netC g2 (x + 117) nm bt := nc.fi f2 (by rw [f2.1.2.2.2.2.2.1 (x + 117) (by omega)]) (by omega)
    have n1 := mNk ⟨mN, fN, nN⟩ F1 (fun q z => by omega)
    have aN : jN g2 x m := ⟨nm, F, V, fl, dn.keep F1.1 (fun q z => by omega) (by rw [rr2]), ⟨by rw [rr2]; exact nw.1, nc2.1, Or.inr ⟨e62, bt, nc2, lp⟩⟩, n1.1, n1.2.1, n1.2.2⟩
    have nt2 := net_mt n12 lp n1.2.2
    have bt2 := ld_bt n12 lp
    have aA : iA g2 x m o := iA.keep cA hm F1 (by rw [F1.1.2.2.2.2.2.1 m (by omega)])
    have aS : thS g2 x := iS.keep cS F1 (fun q z => by omega)
    have aT : iT g2 x m := iT.keep cT F1 (fun q z => by omega) (ex2 1 (by omega)) (by rw [F1.1.2.2.2.2.2.1 m (by omega)])
    have aF : iF g2 x m := iF.keep cF (ex2 4 (by omega)) (by rw [F1.1.2.2.2.2.2.1 m (by omega)])
    have aR : iR g2 x m := iR.keep cR F1 (fun q z => by omega) e32 (by rw [F1.1.2.2.2.2.2.1 m (by omega)])
    have aP : iP g2 x m := iP.keep cP F1 (fun q z => by omega)
    have aO : iO g2 x m := iO.keep cO F1 (fun q z => by omega) (by rw [F1.1.2.2.2.2.2.1 m (by omega)]) (by rw [F1.1.2.2.2.2.2.1 m (by omega)]) (by rw [F1.1.2.2.2.2.2.1 m (by omega)])
    have aG : iG g2 x m := iG.keep cG F1 (fun q z => by omega) (by rw [F1.1.2.2.2.2.2.1 m (by omega)]) (by rw [F1.1.2.2.2.2.2.1 m (by omega)])
    have aK : iK g2 x m := iK.keep cK F1 (fun q z => by omega) (by rw [F1.1.2.2.2.2.2.1 (x + 141) (by omega)]) (by rw [F1.1.2.2.2.2.2.1 m (by omega)])
    have aL : iL g2 x m := iL.keep cL F1 (fun q z => by omega)
    have I1 : INV g2 x m o := ⟨aA, aS, aT, aN, aF, aR, aP, aO, aG, aK, aL⟩
    refine hq g2 _ ⟨_, rfl⟩ F1.sz F1.1.1 fun Q2 hq2 => ?_
    obtain ⟨i0, j0, v1, v2, v3⟩ := ev
    refine t_M_picks (d := 136) aA.2.1 n1.1.1 n12 nt2 bt2 hs (fun w2 => absurd w w2) (fun _ _ g f em _ => ?_) (fun _ w2 => absurd v3 (w2 i0 j0 v1 v2)) fun _ w2 => absurd v3 (w2 i0 j0 v1 v2)
    have R := I1.ms hm f (fun q z => by omega) fun i hi => em i (by omega)
    exact hq2 g R.1 R.2
  · obtain ⟨f1, ex, e6, e3, nc, lp⟩ := nG
    have F1 : fx x (fun q => q = x ∨ q = x + 117 ∨ q = x + 118 ∨ (x + 121 ≤ q ∧ q ≤ x + 124)) h g2 := ((fx.of (x := x) f1).wk (fun q z => by rcases z with z | z | z <;> omega)).tr ((fx.of (x := x) f2).wk fun q z => by omega)
    have ex2 : ∀ i, i ≠ 6 → zI g2 x i = zI h x i := fun i hi => by rw [f2.1.2.2.2.2.2.1 x (by omega)]; exact ex i hi
    have e62 : zI g2 x 6 = iI 0 := by rw [f2.1.2.2.2.2.2.1 x (by omega)]; exact e6
    have e32 : zI g2 (x + 117) 3 = zI h (x + 117) 3 := by rw [f2.1.2.2.2.2.2.1 (x + 117) (by omega)]; exact e3
    have rr2 : zR g2 = zR h := by rw [f2.2, f1.2]
    have nc2 : netC g2 (x + 117) nm bt := nc.fi f2 (by rw [f2.1.2.2.2.2.2.1 (x + 117) (by omega)]) (by omega)
    have n1 := mNk ⟨mN, fN, nN⟩ F1 (fun q z => by omega)
    have aN : jN g2 x m := ⟨nm, F, V, fl, dn.keep F1.1 (fun q z => by omega) (by rw [rr2]), ⟨by rw [rr2]; exact nw.1, nc2.1, Or.inr ⟨e62, bt, nc2, lp⟩⟩, n1.1, n1.2.1, n1.2.2⟩
    have nt2 := net_mt n12 lp n1.2.2
    have bt2 := ld_bt n12 lp
    have aA : iA g2 x m o := iA.keep cA hm F1 (by rw [F1.1.2.2.2.2.2.1 m (by omega)])
    have aS : thS g2 x := iS.keep cS F1 (fun q z => by omega)
    have aT : iT g2 x m := iT.keep cT F1 (fun q z => by omega) (ex2 1 (by omega)) (by rw [F1.1.2.2.2.2.2.1 m (by omega)])
    have aF : iF g2 x m := iF.keep cF (ex2 4 (by omega)) (by rw [F1.1.2.2.2.2.2.1 m (by omega)])
    have aR : iR g2 x m := iR.keep cR F1 (fun q z => by omega) e32 (by rw [F1.1.2.2.2.2.2.1 m (by omega)])
    have aP : iP g2 x m := iP.keep cP F1 (fun q z => by omega)
    have aO : iO g2 x m := iO.keep cO F1 (fun q z => by omega) (by rw [F1.1.2.2.2.2.2.1 m (by omega)]) (by rw [F1.1.2.2.2.2.2.1 m (by omega)]) (by rw [F1.1.2.2.2.2.2.1 m (by omega)])
    have aG : iG g2 x m := iG.keep cG F1 (fun q z => by omega) (by rw [F1.1.2.2.2.2.2.1 m (by omega)]) (by rw [F1.1.2.2.2.2.2.1 m (by omega)])
    have aK : iK g2 x m := iK.keep cK F1 (fun q z => by omega) (by rw [F1.1.2.2.2.2.2.1 (x + 141) (by omega)]) (by rw [F1.1.2.2.2.2.2.1 m (by omega)])
    have aL : iL g2 x m := iL.keep cL F1 (fun q z => by omega)
    have I1 : INV g2 x m o := ⟨aA, aS, aT, aN, aF, aR, aP, aO, aG, aK, aL⟩
    refine hq g2 _ ⟨_, rfl⟩ F1.sz F1.1.1 fun Q2 hq2 => ?_
    refine t_M_picks (d := 136) aA.2.1 n1.1.1 n12 nt2 bt2 hs (fun w2 => absurd w w2) (fun _ w2 => ?_) (fun _ _ _ g f em _ => ?_) fun _ _ hd T h1 h2 gd => absurd gd (nh hd T h1 h2)
    · obtain ⟨i0, j0, v1, v2, v3⟩ := w2
      exact absurd v3 (ne i0 j0 v1 v2)
    · have R := I1.ms hm f (fun q z => by omega) fun i hi => em i (by omega)
      exact hq2 g R.1 R.2
  · obtain ⟨f1, ex, e6, e3, nc, lp⟩ := nG
    have F1 : fx x (fun q => q = x ∨ q = x + 117 ∨ q = x + 118 ∨ (x + 121 ≤ q ∧ q ≤ x + 125)) h g2 := ((fx.of (x := x) f1).wk (fun q z => by rcases z with z | z | z <;> omega)).tr ((fx.of (x := x) f2).wk fun q z => by omega)
    have ex2 : ∀ i, i ≠ 6 → zI g2 x i = zI h x i := fun i hi => by rw [f2.1.2.2.2.2.2.1 x (by omega)]; exact ex i hi
    have e62 : zI g2 x 6 = iI 0 := by rw [f2.1.2.2.2.2.2.1 x (by omega)]; exact e6
    have e32 : zI g2 (x + 117) 3 = zI h (x + 117) 3 := by rw [f2.1.2.2.2.2.2.1 (x + 117) (by omega)]; exact e3
    have rr2 : zR g2 = zR h := by rw [f2.2, f1.2]
    have nc2 : netC g2 (x + 117) nm bt := nc.fi f2 (by rw [f2.1.2.2.2.2.2.1 (x + 117) (by omega)]) (by omega)
    have n1 := mNk ⟨mN, fN, nN⟩ F1 (fun q z => by omega)
    have aN : jN g2 x m := ⟨nm, F, V, fl, dn.keep F1.1 (fun q z => by omega) (by rw [rr2]), ⟨by rw [rr2]; exact nw.1, nc2.1, Or.inr ⟨e62, bt, nc2, lp⟩⟩, n1.1, n1.2.1, n1.2.2⟩
    have nt2 := net_mt n12 lp n1.2.2
    have bt2 := ld_bt n12 lp
    have aA : iA g2 x m o := iA.keep cA hm F1 (by rw [F1.1.2.2.2.2.2.1 m (by omega)])
    have aS : thS g2 x := iS.keep cS F1 (fun q z => by omega)
    have aT : iT g2 x m := iT.keep cT F1 (fun q z => by omega) (ex2 1 (by omega)) (by rw [F1.1.2.2.2.2.2.1 m (by omega)])
    have aF : iF g2 x m := iF.keep cF (ex2 4 (by omega)) (by rw [F1.1.2.2.2.2.2.1 m (by omega)])
    have aR : iR g2 x m := iR.keep cR F1 (fun q z => by omega) e32 (by rw [F1.1.2.2.2.2.2.1 m (by omega)])
    have aO : iO g2 x m := iO.keep cO F1 (fun q z => by omega) (by rw [F1.1.2.2.2.2.2.1 m (by omega)]) (by rw [F1.1.2.2.2.2.2.1 m (by omega)]) (by rw [F1.1.2.2.2.2.2.1 m (by omega)])
    have aG : iG g2 x m := iG.keep cG F1 (fun q z => by omega) (by rw [F1.1.2.2.2.2.2.1 m (by omega)]) (by rw [F1.1.2.2.2.2.2.1 m (by omega)])
    have aK : iK g2 x m := iK.keep cK F1 (fun q z => by omega) (by rw [F1.1.2.2.2.2.2.1 (x + 141) (by omega)]) (by rw [F1.1.2.2.2.2.2.1 m (by omega)])
    have aL : iL g2 x m := iL.keep cL F1 (fun q z => by omega)
    refine hq g2 _ ⟨_, rfl⟩ F1.sz F1.1.1 fun Q2 hq2 => ?_
    refine t_M_picks (d := 136) aA.2.1 n1.1.1 n12 nt2 bt2 hs (fun w2 => absurd w w2) (fun _ w2 => ?_) (fun _ _ w2 => absurd gd (w2 hd T h1 h2)) fun _ _ hd' T' h1' h2' gd' mn' g f em _ s1 s0 => ?_
    · obtain ⟨i0, j0, v1, v2, v3⟩ := w2
      exact absurd v3 (ne i0 j0 v1 v2)
    have eh : hd' = hd := by
      by_cases k1 : hd' < hd
      · exact absurd gd' (mn hd' T' h1' k1)
      · by_cases k2 : hd < hd'
        · exact absurd gd (mn' hd T h1 k2)
        · omega
    rw [eh] at gd' ⊢
    have F2 : fx x (fun q => q = m ∨ q = m + 17 ∨ q = m + 18 ∨ q = m + 19 ∨ q = m + 20) g2 g := fx.of f
    generalize hn : pcN s.toNat 12 = n at *
    have n7 : n ≤ 7 := w.2.2
    have Sb := s4F_b bt (mbF s.toNat) n
    have tb := wgP_b Sb gd.2.1
    have tu := wgP_u gd.2.1 gd'.2.1
    have te : ∀ i, i < 7 → T' i = T i := fun i hi => by
      have := congrFun tu i
      unfold cutT at this
      rw [if_pos hi, if_pos hi] at this
      exact this.symm
    have ge : gcF T' n = gcF T n := gcF_c n fun i hi => te i (by omega)
    have gb := gcF_b tb n n7
    have all : ∀ k, ∃ v : Int, k < 12 → i32 v ∧ zI g (x + 121 + 4) k = iI v ∧ zJ g (m + 19) k = lI v := fun k => by
      by_cases c : ∃ i, i < n ∧ mbF s.toNat i = k
      · obtain ⟨i, hi, ek⟩ := c
        refine ⟨T i / gcF T n, fun hk => ⟨?_, ?_, ?_⟩⟩
        · have b := tb i (by omega)
          have d1 := Int.ediv_nonneg b.1 gb.1
          have d2 := Int.ediv_le_self (gcF T n) b.1
          constructor <;> omega
        · rw [F2.1.2.2.2.2.2.1 _ (by omega), ← ek]
          exact sh1 i hi
        · rw [← ek, s1 i hi, te i (by omega), ge]
      · have c' : ∀ i, i < n → mbF s.toNat i ≠ k := fun i hi e => c ⟨i, hi, e⟩
        refine ⟨0, fun hk => ⟨by constructor <;> omega, ?_, s0 k hk c'⟩⟩
        rw [F2.1.2.2.2.2.2.1 _ (by omega)]
        exact sh0 k hk c'
    have aP : iP g x m := ⟨fun k => (all k).choose, fun k hk => (all k).choose_spec hk⟩
    refine hq2 g F2.sz ?_
    exact ⟨iA.keep aA hm F2 (em 7 (by omega)), iS.keep aS F2 (fun q z => by omega), iT.keep aT F2 (fun q z => by omega) (by rw [F2.1.2.2.2.2.2.1 x (by omega)]) (em 2 (by omega)), jN.keep aN hm F2 (fun q z => by omega) (by rw [F2.1.2.2.2.2.2.2.2 x (by omega)]) (by rw [F2.1.2.2.2.2.2.1 x (by omega)]) (by rw [F2.1.2.2.2.2.2.1 (x + 117) (by omega)]), iF.keep aF (by rw [F2.1.2.2.2.2.2.1 x (by omega)]) (em 21 (by omega)), iR.keep aR F2 (fun q z => by omega) (by rw [F2.1.2.2.2.2.2.1 (x + 117) (by omega)]) (em 28 (by omega)), aP, iO.keep aO F2 (fun q z => by omega) (em 39 (by omega)) (em 41 (by omega)) (em 42 (by omega)), iG.keep aG F2 (fun q z => by omega) (em 54 (by omega)) (em 55 (by omega)), iK.keep aK F2 (fun q z => by omega) (by rw [F2.1.2.2.2.2.2.1 (x + 141) (by omega)]) (em 56 (by omega)), iL.keep aL F2 (fun q z => by omega)⟩
theorem p_others {a b p q l : Int} (ha : i32 a) (hb : i32 b) (hp : i32 p) (hqq : i32 q) (hl : i32 l) (hm : m = x + 161) (I : INV h x m o) : pr2 iV m_D_others m_M_others [.ref x, .int (iI a), .int (iI b), .int (iI p), .int (iI q), .int (iI l)] [.ref m, .int (iI a), .int (iI b), .int (iI p), .int (iI q), .int (iI l)] h x m o := fun Q1 hq => by
  obtain ⟨cA, cS, cT, cN, cF, cR, cP, cO, cG, cK, cL⟩ := id I
  obtain ⟨nm, F, V, fl, dn, nw, mN, fN, nN⟩ := id cN
  obtain ⟨t, to, nm0, va, st, tm, F0, Wd0, V0, Wd, c1, c2, c3, c4, c5, c6⟩ := id dn
  obtain ⟨p0, q0, K, X0, Y0, pk0, ⟨tr, tr0⟩, ot0, fc0⟩ := id cO
  refine t_others (d := 126) cA.1.N c1 cA.1.2.1.2.2.2.2.1 c4 (nm_F fN) c5 (nm_g mN) (nm_V mN fN) cA.1.2.2.2.2.1 (by omega) pk0 tr0 ha hb hp hqq hl (fun w => ?_) fun w g1 K2 f1 eK pk tt => ?_
  · refine hq h _ ⟨_, rfl⟩ ⟨rfl, rfl, rfl⟩ rfl fun Q2 hq2 => ?_
    refine t_M_others (D := 136) cA.2.1 mN fN (nm_F fN) ha hb hp hqq hl (fun _ g z => ?_) fun w2 => absurd w2 w
    exact hq2 g (I.mt hm z).1 (I.mt hm z).2
  · have F1 : fx x (fun q => x + 126 ≤ q ∧ q ≤ x + 134) h g1 := (fx.of (x := x) f1).wk fun q z => ⟨z.1, by have := z.2; omega⟩
    have aA : iA g1 x m o := iA.keep cA hm F1 (by rw [F1.1.2.2.2.2.2.1 m (by omega)])
    have aS : thS g1 x := iS.keep cS F1 (fun q z => by omega)
    have aT : iT g1 x m := iT.keep cT F1 (fun q z => by omega) (by rw [F1.1.2.2.2.2.2.1 x (by omega)]) (by rw [F1.1.2.2.2.2.2.1 m (by omega)])
    have aN : jN g1 x m := jN.keep cN hm F1 (fun q z => by omega) (by rw [F1.1.2.2.2.2.2.2.2 x (by omega)]) (by rw [F1.1.2.2.2.2.2.1 x (by omega)]) (by rw [F1.1.2.2.2.2.2.1 (x + 117) (by omega)])
    have aF : iF g1 x m := iF.keep cF (by rw [F1.1.2.2.2.2.2.1 x (by omega)]) (by rw [F1.1.2.2.2.2.2.1 m (by omega)])
    have aR : iR g1 x m := iR.keep cR F1 (fun q z => by omega) (by rw [F1.1.2.2.2.2.2.1 (x + 117) (by omega)]) (by rw [F1.1.2.2.2.2.2.1 m (by omega)])
    have aP : iP g1 x m := iP.keep cP F1 (fun q z => by omega)
    have aG : iG g1 x m := iG.keep cG F1 (fun q z => by omega) (by rw [F1.1.2.2.2.2.2.1 m (by omega)]) (by rw [F1.1.2.2.2.2.2.1 m (by omega)])
    have aK : iK g1 x m := iK.keep cK F1 (fun q z => by omega) (by rw [F1.1.2.2.2.2.2.1 (x + 141) (by omega)]) (by rw [F1.1.2.2.2.2.2.1 m (by omega)])
    have aL : iL g1 x m := iL.keep cL F1 (fun q z => by omega)
    have n1 := mNk ⟨mN, fN, nN⟩ F1 (fun q z => by omega)
    refine hq g1 _ ⟨_, rfl⟩ F1.sz F1.1.1 fun Q2 hq2 => ?_
    refine t_M_others (D := 136) aA.2.1 n1.1 n1.2.1 (nm_F fN) ha hb hp hqq hl (fun w2 => absurd w w2) fun _ g low high l1 l2 h1 h2 lh hh f2 em _ e41 e42 ks => ?_
    have F2 : fx x (fun z => z = m ∨ (m + 21 ≤ z ∧ z ≤ m + 26)) g1 g := fx.of f2
    obtain ⟨sa, sb, sl, p1, pq, pe⟩ := w
    have dA := fN a.toNat (by omega)
    have dB := fN b.toNat (by omega)
    have gA := nm_g mN a.toNat (by omega)
    have gB := nm_g mN b.toNat (by omega)
    have vA := nm_V mN fN a.toNat (by omega) sa.2.1
    have vB := nm_V mN fN b.toNat (by omega) sb.2.1
    have hA := dA.2.2 sa.2.1
    have hB := dB.2.2 sb.2.1
    have fa := fun i hi => (hA.1 i hi).2
    have fb := fun i hi => (hB.1 i hi).2
    have gA1 := gA.1
    have gB1 := gB.1
    obtain ⟨ls, k1, k2, k3, k4, k5, k6, k7⟩ := oth_link gA gB vA.1 vB.1 (by omega) (by omega) fa fb hA.2 hB.2
    have tt2 := tg_tot fa fb
    generalize hN : tgN (fl a.toNat) (fl b.toNat) (F a.toNat).toNat (F b.toNat).toNat = tg at *
    have en : (F a.toNat).toNat * (F b.toNat).toNat = p.toNat * q.toNat := by
      have z1 : ((F a.toNat).toNat : Int) = F a.toNat := by omega
      have z2 : ((F b.toNat).toNat : Int) = F b.toNat := by omega
      have z3 : (p.toNat : Int) = p := by omega
      have z4 : (q.toNat : Int) = q := by omega
      have : (((F a.toNat).toNat * (F b.toNat).toNat : Nat) : Int) = ((p.toNat * q.toNat : Nat) : Int) := by
        rw [Int.natCast_mul, Int.natCast_mul, z1, z2, z3, z4, pe]
      omega
    have e64 : (F a.toNat).toNat * (F b.toNat).toNat ≤ 8 * 8 := Nat.mul_le_mul (by omega) (by omega)
    have p65 : p.toNat + q.toNat ≤ 65 := by
      obtain ⟨u, hu⟩ : ∃ u, p.toNat = u + 1 := ⟨p.toNat - 1, by omega⟩
      obtain ⟨v, hv⟩ : ∃ v, q.toNat = v + 1 := ⟨q.toNat - 1, by omega⟩
      have : (u + 1) * (v + 1) = u * v + u + v + 1 := by
        rw [Nat.add_mul, Nat.mul_add, Nat.mul_one, Nat.one_mul]
        omega
      rw [hu, hv] at en ⊢
      omega
    obtain ⟨S1, o1, r1⟩ := C_oth (cn := fun k => tg (ls + k)) (tg := tg) (p := p.toNat) (q := q.toNat) (ls := ls) (least := l.toNat) (K := K) p65 (by omega) (by omega) (by omega) k2 k4 k5 (by rw [k6, en]) k7
    obtain ⟨S2, o2, r2⟩ := M_oth (tg := tg) (p := p.toNat) (q := q.toNat) (l := l.toNat) (low := low) (high := high) (by omega) (by omega) (by rw [tt2, en]) l1 l2 h1 lh hh
    rw [k1, k3] at eK
    rw [← eK] at r1
    obtain ⟨s1, s2, s3⟩ := oth_same o1 r1 o2 r2
    rw [s1] at hq2
    refine hq2 g F2.sz ?_
    generalize hKM : ksL p.toNat q.toNat (oLL tg p.toNat q.toNat l.toNat low high) = KM at *
    have aO : iO g x m := by
      refine ⟨p.toNat, q.toNat, K2, KM.2.2.1, KM.2.2.2, ?_, ?_, ?_, fun k hk => ?_⟩
      · have J : ∀ q, x + 126 ≤ q → q < x + 135 → zI g q = zI g1 q := fun q a b => F2.1.2.2.2.2.2.1 _ (by omega)
        rw [pkS, J _ (by omega) (by omega), J _ (by omega) (by omega), J _ (by omega) (by omega), J _ (by omega) (by omega), J _ (by omega) (by omega)]
        exact pk
      · obtain ⟨tr2, h2⟩ := tt
        exact ⟨tr2, fun i hi => by rw [F2.1.2.2.2.2.2.1 _ (by omega)]; exact h2 i hi⟩
      · obtain ⟨m1, m2, m3, m4⟩ := ks
        refine ⟨by rw [s2]; exact m1, e41, e42, by rw [s2]; exact m2, by omega, by omega, fun k hk => ⟨fun v hv => ?_, ?_, ?_⟩⟩
        · have z := m4 k (by omega) v hv
          exact ⟨z.1.2, z.2.2, z.1.1, z.2.1⟩
        · have := sn_eq (f := KM.2.2.1 k) 61 0
          rw [Nat.zero_add] at this
          rw [← (s3 k hk).1, ← this]
          show _ = 0 + _
          omega
        · have := sn_eq (f := KM.2.2.2 k) 61 0
          rw [Nat.zero_add] at this
          rw [← (s3 k hk).2.1, ← this]
          show _ = 0 + _
          omega
      · have z := s3 k hk
        have y := (r1.2.2.1 k hk).1
        exact ⟨by omega, z.2.2.1, z.2.2.2⟩
    exact ⟨iA.keep aA hm F2 (em 7 (by omega) (by omega)), iS.keep aS F2 (fun q z => by omega), iT.keep aT F2 (fun q z => by omega) (by rw [F2.1.2.2.2.2.2.1 x (by omega)]) (em 2 (by omega) (by omega)), jN.keep aN hm F2 (fun q z => by omega) (by rw [F2.1.2.2.2.2.2.2.2 x (by omega)]) (by rw [F2.1.2.2.2.2.2.1 x (by omega)]) (by rw [F2.1.2.2.2.2.2.1 (x + 117) (by omega)]), iF.keep aF (by rw [F2.1.2.2.2.2.2.1 x (by omega)]) (em 21 (by omega) (by omega)), iR.keep aR F2 (fun q z => by omega) (by rw [F2.1.2.2.2.2.2.1 (x + 117) (by omega)]) (em 28 (by omega) (by omega)), iP.keep aP F2 (fun q z => by omega), aO, iG.keep aG F2 (fun q z => by omega) (em 54 (by omega) (by omega)) (em 55 (by omega) (by omega)), iK.keep aK F2 (fun q z => by omega) (by rw [F2.1.2.2.2.2.2.1 (x + 141) (by omega)]) (em 56 (by omega) (by omega)), iL.keep aL F2 (fun q z => by omega)⟩
end PRT
