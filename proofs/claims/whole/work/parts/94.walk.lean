/-! FaceSearch: walk -/
theorem fsC.keep {S : Nat → Prop} {h g : Hp} {x p q lx ly : Nat} {lf : Nat → Int} {X Y tr : Nat → Nat} (hs : fsC h x p q lf X Y tr lx ly) (f : fi S h g) (h0 : ∀ i, (i = 5 ∨ i = 6 ∨ i = 10 ∨ i = 11) → zI g x i = zI h x i) (h1 : ∀ k, x + 5 ≤ k → k ≤ x + 8 → ¬ S k) : fsC g x p q lf X Y tr lx ly := by
  obtain ⟨ho, h5, h6, hl, hx, hy, ht, h10, h11⟩ := hs
  have r := f.1.2.2.2.2.2.1
  rw [fsC, h0 5 (by omega), h0 6 (by omega), h0 10 (by omega), h0 11 (by omega), r _ (h1 (x + 5) (by omega) (by omega)), r _ (h1 (x + 6) (by omega) (by omega)), r _ (h1 (x + 7) (by omega) (by omega)), r _ (h1 (x + 8) (by omega) (by omega))]
  exact ⟨ho.fi f, h5, h6, hl, hx, hy, ht, h10, h11⟩
abbrev cOK (c : Nat → Int) : Prop := ∀ k, k < 122 → 0 ≤ c k ∧ c k ≤ 1000
theorem fx_b {h : Hp} {x p q lx ly : Nat} {lf : Nat → Int} {P : Pth} {tr : Nat → Nat} (hs : fsC h x p q lf (fX P) (fY P) tr lx ly) (hl : P.length ≤ 61) : (∀ i, fX P i ≤ 64) ∧ ∀ i, fY P i ≤ 64 := by
  obtain ⟨ho, h5, h6, hl2, hx, hy, -⟩ := hs
  refine ⟨fun i => ?_, fun i => ?_⟩
  · by_cases c : i < 61
    · exact (hx i c).1
    · rw [(fX_ge (P := P) (i := i) (by omega)).1]
      omega
  · by_cases c : i < 61
    · exact (hy i c).1
    · rw [(fX_ge (P := P) (i := i) (by omega)).2]
      omega
/-- a step's S, and the numbers of x that it may change -/
abbrev seS (x : Nat) : Nat → Prop := fun q => q = x ∨ x + 5 ≤ q ∧ q ≤ x + 8
theorem t_takeDo {d : Nat} {h : Hp} {x p q : Nat} {c : Nat → Int} {P : Pth} {a : Nat × Nat} {tr : Nat → Nat} {Q : Nat → Option Value → Hp → Prop} (hs : fsC h x p q (lF c P) (fX (P ++ [a])) (fY (P ++ [a])) tr (sX P) (sY P)) (hc : cOK c) (hl : P.length < 61) (h1 : sX (P ++ [a]) ≤ 64) (h2 : sY (P ++ [a]) ≤ 64)
    (hq : ∀ g (b : Prop) [Decidable b], fi (seS x) h g → (∀ i, i ≠ 10 → i ≠ 11 → zI g x i = zI h x i) → fsC g x p q (lF c (P ++ [a])) (fX (P ++ [a])) (fY (P ++ [a])) tr (sX (P ++ [a])) (sY (P ++ [a])) → (b ↔ enP c (P ++ [a])) → Q 0 (some (.int (iI (if b then 1 else 0)))) g) : PR d m_FaceSearch_take [.ref x, .int (iI P.length), .int (iI (-1))] h Q := by
  have fb := fx_b hs (by rw [app_len]; omega)
  have eX : fX (P ++ [a]) P.length = a.1 := by rw [fX_app.1]; exact if_pos rfl
  have eY : fY (P ++ [a]) P.length = a.2 := by rw [fX_app.2]; exact if_pos rfl
  refine t_take9 (s := -1) hs hl (Or.inr rfl) fun g b _ f z z10 z11 z5 hb => hq g b (f.wk fun q y => by unfold seS; omega) z ?_ (hb.trans ?_)
  · obtain ⟨ho, h5, h6, hl2, hx, hy, ht, h10, h11⟩ := hs
    have r := f.1.2.2.2.2.2.1
    rw [eX] at z10
    rw [eY] at z11
    refine ⟨ho.fi f, by rw [z 5 (by omega) (by omega)]; exact h5, by rw [z 6 (by omega) (by omega)]; exact h6, fun i hi => ⟨lF_b (hc i hi) fb.1 fb.2 h1 h2, ?_⟩, by rw [r _ (by omega)]; exact hx, by rw [r _ (by omega)]; exact hy, by rw [r _ (by omega)]; exact ht, ?_, ?_⟩
    · rw [z5 i hi, lF_app]
      refine congrArg iI ?_
      omega
    · rw [z10, sX_app.1]
      refine congrArg iI ?_
      omega
    · rw [z11, sX_app.2]
      refine congrArg iI ?_
      omega
  · unfold enP enB
    have el : (P ++ [a]).length - 1 = P.length := by rw [app_len]; omega
    rw [el]
    have e : ∀ k, lF c P k + -1 * ckF (fX (P ++ [a])) (fY (P ++ [a])) P.length k = lF c (P ++ [a]) k := fun k => by
      rw [lF_app]
      omega
    constructor
    · rintro (w | w)
      · exact Or.inl w
      · exact Or.inr fun k a1 a2 => by rw [← e]; exact w k a1 a2
    · rintro (w | w)
      · exact Or.inl w
      · exact Or.inr fun k a1 a2 => by
          show 0 ≤ lF c P k + -1 * ckF (fX (P ++ [a])) (fY (P ++ [a])) P.length k
          rw [e]
          exact w k a1 a2
theorem t_takeUndo {d : Nat} {h : Hp} {x p q : Nat} {c : Nat → Int} {P : Pth} {a : Nat × Nat} {tr : Nat → Nat} {Q : Nat → Option Value → Hp → Prop} (hs : fsC h x p q (lF c (P ++ [a])) (fX (P ++ [a])) (fY (P ++ [a])) tr (sX (P ++ [a])) (sY (P ++ [a]))) (hc : cOK c) (hl : P.length < 61) (h1 : sX (P ++ [a]) ≤ 64) (h2 : sY (P ++ [a]) ≤ 64)
    (hq : ∀ g v, fi (seS x) h g → (∀ i, i ≠ 10 → i ≠ 11 → zI g x i = zI h x i) → fsC g x p q (lF c P) (upN (fX P) P.length a.1) (upN (fY P) P.length a.2) tr (sX P) (sY P) → Q 0 (some (.int v)) g) : PR d m_FaceSearch_take [.ref x, .int (iI P.length), .int (iI 1)] h Q := by
  have fb := fx_b hs (by rw [app_len]; omega)
  have eX : fX (P ++ [a]) P.length = a.1 := by rw [fX_app.1]; exact if_pos rfl
  have eY : fY (P ++ [a]) P.length = a.2 := by rw [fX_app.2]; exact if_pos rfl
  have sa := sX_app (P := P) (a := a)
  refine t_take9 (s := 1) hs hl (Or.inl rfl) fun g b _ f z z10 z11 z5 hb => hq g _ (f.wk fun q y => by unfold seS; omega) z ?_
  obtain ⟨ho, h5, h6, hl2, hx, hy, ht, h10, h11⟩ := hs
  have r := f.1.2.2.2.2.2.1
  rw [eX] at z10
  rw [eY] at z11
  have lt : ∀ i, fX P i ≤ 64 ∧ fY P i ≤ 64 := fun i => by
    by_cases y : i < P.length
    · have b1 := fb.1 i
      have b2 := fb.2 i
      rw [fX_app.1, show upN (fX P) P.length a.1 i = fX P i from if_neg (by omega)] at b1
      rw [fX_app.2, show upN (fY P) P.length a.2 i = fY P i from if_neg (by omega)] at b2
      exact ⟨b1, b2⟩
    · rw [(fX_ge (P := P) (i := i) (by omega)).1, (fX_ge (P := P) (i := i) (by omega)).2]
      omega
  rw [← fX_app.1, ← fX_app.2]
  refine ⟨ho.fi f, by rw [z 5 (by omega) (by omega)]; exact h5, by rw [z 6 (by omega) (by omega)]; exact h6, fun i hi => ⟨lF_b (hc i hi) (fun i => (lt i).1) (fun i => (lt i).2) (by omega) (by omega), ?_⟩, by rw [r _ (by omega)]; exact hx, by rw [r _ (by omega)]; exact hy, by rw [r _ (by omega)]; exact ht, ?_, ?_⟩
  · rw [z5 i hi, lF_app]
    refine congrArg iI ?_
    omega
  · rw [z10]
    refine congrArg iI ?_
    omega
  · rw [z11]
    refine congrArg iI ?_
    omega
