/-! Bench as a stack of values -/
/-- Bench at b: the values st (the top first), or TOO MUCH -/
def bnS (h : Hp) (b : Nat) (st : List RowVal) (tm : Bool) : Prop := st.length ≤ 24 ∧ ∃ (R : Nat → Nat) (V : Nat → RowVal), bnC h b st.length tm R ∧ bnV h R V ∧ bnZ h b ∧ (∀ i, i < 26 → rB (V i)) ∧ (tm = false → ∀ i v, st[i]? = some v → gV v ∧ V (st.length - 1 - i) = v)
abbrev bnA (b : Nat) : Nat → Prop := fun q => b ≤ q ∧ q < b + 56
theorem bn_at {h : Hp} {b : Nat} {ht : Int} {tm : Bool} {R : Nat → Nat} (hb : bnC h b ht tm R) {i : Nat} (hi : i < 26) : b + 2 ≤ R i ∧ R i + 1 < b + 56 ∧ apt (R i) (b + 6) ∧ ∀ j, j < 26 → j ≠ i → apt (R i) (R j) := by
  have o := hb.2.2.2.2.2.2.2.2.2.2.2.2.1
  have inj := hb.2.2.2.2.2.2.2.2.2.2.2.2.2
  have oi := o i hi
  refine ⟨?_, ?_, ?_, fun j hj hne => ?_⟩
  · unfold bnO at oi; omega
  · unfold bnO at oi; omega
  · unfold bnO at oi; unfold apt; omega
  · have oj := o j hj
    have : R j ≠ R i := fun z => hne (inj j i hj hi z)
    unfold bnO at oi oj
    unfold apt
    omega
theorem bnV.keep {S : Nat → Prop} {h g : Hp} {b : Nat} {ht : Int} {tm : Bool} {R : Nat → Nat} {V : Nat → RowVal} (hb : bnC h b ht tm R) (hv : bnV h R V) (hf : fr S h g) (hs : ∀ q, S q → ¬ (b + 2 ≤ q ∧ q < b + 56)) : bnV g R V := fun i hi => by
  have := bn_at hb hi
  exact (hv i hi).keep hf (fun z => hs _ z (by omega)) (fun z => hs _ z (by omega))
theorem bnZ.keep' {S : Nat → Prop} {h g : Hp} {b : Nat} (hz : bnZ h b) (hf : fr S h g) (hs : ∀ q, S q → ¬ (b + 2 ≤ q ∧ q < b + 56)) : bnZ g b := rowV.keep hz hf (fun z => hs _ z (by omega)) (fun z => hs _ z (by omega))
theorem bnS.keep {S : Nat → Prop} {h g : Hp} {b : Nat} {st : List RowVal} {tm : Bool} (hb : bnS h b st tm) (hf : fr S h g) (hs : ∀ q, S q → ¬ bnA b q) : bnS g b st tm := by
  obtain ⟨hl, R, V, b1, b2, b3, b4, b5⟩ := hb
  have hs2 : ∀ q, S q → ¬ (b + 2 ≤ q ∧ q < b + 56) := fun q z => by
    have := hs q z
    unfold bnA at this
    omega
  refine ⟨hl, R, V, ?_, bnV.keep b1 b2 hf hs2, b3.keep' hf hs2, b4, b5⟩
  obtain ⟨a1, a2, a3, a4, a5, a6, a7, a8, a9, aa, ab, ac, ad, ae⟩ := b1
  have n0 : ¬ S b := fun z => hs b z ⟨Nat.le_refl _, by omega⟩
  have n1 : ¬ S (b + 1) := fun z => hs _ z ⟨by omega, by omega⟩
  have e0 := hf.2.2.2.2.2.1 b n0
  have r0 := hf.2.2.2.2.2.2.2 b n0
  have r1 := hf.2.2.2.2.2.2.2 (b + 1) n1
  exact ⟨by rw [hf.1, a1], by rw [hf.2.2.1]; exact a2, by rw [e0, a3], by rw [e0, a4], a5, by rw [r0, a6], by rw [hf.1, a7], by rw [hf.2.1, a8], fun i hi => by rw [r1, a9 i hi], by rw [r0, aa], by rw [r0, ab], by rw [r0, ac], ad, ae⟩
theorem t_bnStart {d : Nat} {h : Hp} {b : Nat} {st : List RowVal} {tm : Bool} {Q : Nat → Option Value → Hp → Prop} (hb : bnS h b st tm) (hq : ∀ h', fr (bnA b) h h' → bnS h' b [] false → Q 0 none h') : PR d 1 [.ref b] h Q := by
  obtain ⟨hl, R, V, b1, b2, b3, b4, b5⟩ := hb
  refine t_bstart b1 fun g f g1 => hq g (f.wk fun q z => by unfold bnA; omega) ⟨by decide, R, V, g1, bnV.keep b1 b2 f (fun q z => by omega), b3.keep' f (fun q z => by omega), b4, fun _ i v hv => by simp at hv⟩
theorem t_bnLayNumber {d : Nat} {h : Hp} {b : Nat} {st : List RowVal} {tm : Bool} {n : Int} {Q : Nat → Option Value → Hp → Prop} (hb : bnS h b st tm) (hl : st.length < 24) (hn : -200 ≤ n ∧ n ≤ 200) (hq : ∀ h', fr (bnA b) h h' → bnS h' b (nuV n :: st) tm → Q 0 none h') : PR (d + 3) 5 [.ref b, .int (iI n)] h Q := by
  obtain ⟨hl0, R, V, b1, b2, b3, b4, b5⟩ := hb
  refine t_layNumber b1 b2 b3 hn fun g V' f g1 g2 g3 g4 => hq g f ?_
  rw [if_pos (by omega), if_pos (by omega)] at g1
  cases tm with
  | true =>
    sorry
  | false => sorry
