/-! an object whose first fields hold new arrays, in the cells that follow it -/
def objA (h : Hp) (x y : Nat) (l : List (Nat × Nat)) : Prop := zK h x = y ∧ x + l.length < zN h ∧ ∀ i p, l[i]? = some p → zR h x i = some (x + 1 + i) ∧ zK h (x + 1 + i) = p.1 ∧ zL h (x + 1 + i) = p.2
theorem objA.gk {S : Nat → Prop} {c s : Nat} {h h' : Hp} {x y : Nat} {l : List (Nat × Nat)} (ho : objA h x y l) (hf : gw S c s h h') (h1 : ¬ S x) : objA h' x y l := by
  obtain ⟨a, b, e⟩ := ho
  refine ⟨by rw [hf.2.2.2.1 x (by omega), a], by rw [hf.1]; omega, fun i p hp => ?_⟩
  have hi : i < l.length := (List.getElem?_eq_some_iff.mp hp).1
  obtain ⟨e1, e2, e3⟩ := e i p hp
  rw [hf.2.2.2.2.2.2.2 x (by omega) h1, hf.2.2.2.1 _ (by omega), hf.2.2.2.2.1 _ (by omega)]
  exact ⟨e1, e2, e3⟩
theorem PW.arn {d k i x y c : Nat} {n : Int} {ty : ArrayType} {ls : List (Option Value)} {h0 h : Hp} {C S : Nat} {l : List (Nat × Nat)} {Q : Nat → Option Value → Hp → Prop} (hr : ((gRes k).drop i).take 4 = [.aload 0, .iconst n, .newarray ty, .putfield c]) (hc : c = 1000 * y + 10 * l.length + 2) (hl : l.length < 100) (ho : objA h x y l) (hN : zN h = x + 1 + l.length) (hz : zN h < zSC) (hty : 13 ≤ atk ty) (hn : 0 ≤ n ∧ n ≤ 100000) (hw : gw (fun q => q = x) C S h0 h) (hI : zI h x = zI h0 x) (hx : x < zN h0)
    (hs : ls = [some (.ref x)])
    (hq : ∀ h', gw (fun q => q = x) (C + 1) (S + n.toNat) h0 h' → zI h' x = zI h0 x → objA h' x y (l ++ [(atk ty, n.toNat)]) → zN h' = x + 1 + (l.length + 1) → PW d k (i + 4) ls [] h' Q) : PW d k i ls [] h Q := by
  have ho' := ho
  obtain ⟨a, b, e⟩ := ho'
  refine PW.arr (y := y) (j := l.length) hr (by omega) (by omega) (by omega) a (by omega) hz hty hn hs fun g w q1 q2 _ _ wi _ wr => ?_
  have hg : zN g = x + 1 + (l.length + 1) := by rw [w.1]; omega
  refine hq g (hw.tr (w.wk fun _ _ c => Or.inl c)) (wi.trans hI) ⟨?_, ?_, fun i p hp => ?_⟩ hg
  · rw [w.2.2.2.1 x (by omega), a]
  · rw [List.length_append]
    show x + (l.length + 1) < zN g
    omega
  · rw [wr]
    by_cases ci : i < l.length
    · rw [List.getElem?_append_left ci] at hp
      obtain ⟨e1, e2, e3⟩ := e i p hp
      rw [if_neg (by omega), w.2.2.2.1 _ (by omega), w.2.2.2.2.1 _ (by omega)]
      exact ⟨e1, e2, e3⟩
    · rw [List.getElem?_append_right (by omega)] at hp
      have hi : i = l.length := by
        have := (List.getElem?_eq_some_iff.mp hp).1
        simp at this
        omega
      subst hi
      rw [Nat.sub_self] at hp
      have hp' : (atk ty, n.toNat) = p := by
        simpa using hp
      subst hp'
      rw [if_pos rfl, ← hN]
      exact ⟨rfl, q1, q2⟩
