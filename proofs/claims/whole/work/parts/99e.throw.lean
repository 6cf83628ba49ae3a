/-! DiceRing: throwOne -/
/-- a good value, as wide as b -/
def gW (b : Int) (v : RowVal) : Prop := (-b ≤ v.1 ∧ v.1 ≤ v.2.1 ∧ v.2.1 ≤ b) ∧ (∀ m, 0 ≤ v.2.2.2 m) ∧ (∀ m, ¬ (v.1 ≤ m ∧ m ≤ v.2.1) → v.2.2.2 m = 0) ∧ v.2.2.1 = tS v.2.2.2 ∧ 1 ≤ v.2.2.1 ∧ v.2.2.1 ≤ 1000000000
theorem gV.w {v : RowVal} (h : gV v) : gW 200 v := ⟨h.1, h.2.1, h.2.2.1, h.2.2.2.2⟩
theorem tS_shiftW {f : Int → Int} {c : Int} (hf : spt f 200) (hc : -700 ≤ c ∧ c ≤ 700) : tS (fun m => f (m + c)) = tS f := by
  rw [tS_e, tS_e, sm_shift, sm_spt (b := 200) hf (by omega) (by omega) (by omega), sm_spt (b := 200) (lo := -1000) hf (by omega) (by omega) (by omega)]
theorem cv_totW {Wa Wb : Int → Int} (ha : spt Wa 600) (hb : spt Wb 200) : tS (cvW 0 Wa Wb) = tS Wa * tS Wb := by
  show tS (fun m => tS (fun i => Wa i * Wb (sg 0 i m))) = _
  rw [tS_ex, ← tS_mulc]
  refine pS_congr fun i h1 h2 => ?_
  show tS (fun m => Wa i * Wb (sg 0 i m)) = _
  rw [tS_cmul]
  by_cases c : -600 ≤ i ∧ i ≤ 600
  · refine congrArg (fun z => Wa i * z) ?_
    unfold sg
    simp only [if_true]
    exact tS_shiftW (c := -i) hb (by omega)
  · rw [ha i c, Int.zero_mul, Int.zero_mul]
theorem gW_ad {b : Int} {a c : RowVal} (hb : b ≤ 600) (ha : gW b a) (hc : gV c) (hok : a.2.2.1 * c.2.2.1 ≤ 1000000000) : gW (b + 200) (adV 0 a c) := by
  obtain ⟨al, ah, at0, aW⟩ := a
  obtain ⟨bl, bh, bt0, bW⟩ := c
  have sb := hc.spt
  obtain ⟨a1, a2, a3, a5, a6, a7⟩ := ha
  obtain ⟨b1, b2, b3, b4, b5, b6, b7⟩ := hc
  dsimp only at a1 a2 a3 a5 a6 a7 b1 b2 b3 b4 b5 b6 b7 sb hok
  have sa : spt aW 600 := fun m hm => a3 m (by omega)
  refine ⟨⟨?_, ?_, ?_⟩, cv_nn a2 b2, fun m hm => ?_, ?_, ?_, hok⟩
  · show -(b + 200) ≤ al + bl
    omega
  · show al + bl ≤ ah + bh
    omega
  · show ah + bh ≤ b + 200
    omega
  · refine pS_zero fun i h1 h2 => ?_
    show aW i * bW (m - i) = 0
    replace hm : ¬ (al + bl ≤ m ∧ m ≤ ah + bh) := hm
    by_cases c : al ≤ i ∧ i ≤ ah
    · rw [b3 (m - i) (by omega), Int.mul_zero]
    · rw [a3 i c, Int.zero_mul]
  · show at0 * bt0 = tS (cvW 0 aW bW)
    rw [cv_totW sa sb, a5, b5]
  · show 1 ≤ at0 * bt0
    have := Int.mul_le_mul a6 b6 (by omega) (by omega)
    omega
/-- v thrown n + 1 times, or none once the WAYS are TOO MUCH -/
def thrV (v : RowVal) : Nat → Option RowVal
  | 0 => some v
  | n + 1 => (thrV v n).bind fun w => if w.2.2.1 * v.2.2.1 ≤ 1000000000 then some (adV 0 w v) else none
