/-! pairs of dice with their starts in place -/
def shZ (s : Nat) (X : Nat → Nat) (i : Nat) : Nat := if s ≤ i then X (i - s) else 0
theorem smN_sh {s N : Nat} {X : Nat → Nat} (h : ∀ i, N < s + i + 1 → X i = 0) : smN (shZ s X) N = smN X N := by
  have a := smN_off (g := X) (v := s) (k := N) N
  rw [show min N (N - s) = N - s by omega] at a
  have b : smN (shZ s X) N = smN (fun i => if s ≤ i ∧ i - s < N then X (i - s) else 0) N := smN_cg N fun i hi => by
    unfold shZ
    by_cases c : s ≤ i
    · rw [if_pos c, if_pos ⟨c, by omega⟩]
    · rw [if_neg c, if_neg (by omega)]
  rw [b, a]
  by_cases c : s ≤ N
  · exact (smN_ext (show N - s ≤ N by omega) fun i hi => h i (by omega)).symm
  · rw [show N - s = 0 by omega]
    exact (smN_zero N fun i _ => h i (by omega)).symm
theorem cv_sh {s r t : Nat} {X Y : Nat → Nat} (hx : ∀ i, 60 < s + i → X i = 0) (hy : ∀ i, 60 < r + i → Y i = 0) : cvN (shZ s X) (shZ r Y) t = if s + r ≤ t then cvN X Y (t - s - r) else 0 := by
  have b : cvN (shZ s X) (shZ r Y) t = smN (shZ s (fun u => if s + r ≤ t then cvT X Y (t - s - r) u else 0)) 61 := smN_cg 61 fun v _ => by
    unfold cvT shZ
    by_cases c1 : s ≤ v
    · rw [if_pos c1, if_pos c1]
      dsimp only
      by_cases c2 : v ≤ t ∧ t - v ≤ 60
      · rw [if_pos c2]
        by_cases c3 : r ≤ t - v
        · rw [if_pos c3, if_pos (show s + r ≤ t by omega), if_pos ⟨by omega, by omega⟩, show t - s - r - (v - s) = t - v - r by omega]
        · rw [if_neg c3, Nat.mul_zero]
          by_cases c4 : s + r ≤ t
          · rw [if_pos c4, if_neg (by omega)]
          · rw [if_neg c4]
      · rw [if_neg c2]
        by_cases c4 : s + r ≤ t
        · rw [if_pos c4]
          by_cases c5 : v - s ≤ t - s - r ∧ t - s - r - (v - s) ≤ 60
          · rw [if_pos c5, hy (t - s - r - (v - s)) (by omega), Nat.mul_zero]
          · rw [if_neg c5]
        · rw [if_neg c4]
    · rw [if_neg c1, if_neg c1, Nat.zero_mul]
      split <;> rfl
  rw [b, smN_sh fun i hi => ?_]
  · by_cases c : s + r ≤ t
    · rw [if_pos c]
      exact smN_cg 61 fun u _ => if_pos c
    · rw [if_neg c]
      exact smN_zero 61 fun u _ => if_neg c
  · by_cases c : s + r ≤ t
    · rw [if_pos c]
      unfold cvT
      rw [hx i (by omega), Nat.zero_mul]
      split <;> rfl
    · rw [if_neg c]
theorem sh_gt {s : Nat} {A B : Nat → Nat} : gtL (shZ s A) (shZ s B) ↔ gtL A B := by
  constructor
  · intro ⟨i, h1, h2⟩
    unfold shZ at h1 h2
    by_cases c : s ≤ i
    · rw [if_pos c, if_pos c] at h1
      refine ⟨i - s, h1, fun j hj => ?_⟩
      have := h2 (j + s) (by omega)
      rw [if_pos (by omega), if_pos (by omega), show j + s - s = j by omega] at this
      exact this
    · rw [if_neg c, if_neg c] at h1
      omega
  · intro ⟨i, h1, h2⟩
    refine ⟨i + s, ?_, fun j hj => ?_⟩
    · unfold shZ
      rw [if_pos (by omega), if_pos (by omega), show i + s - s = i by omega]
      exact h1
    · unfold shZ
      by_cases c : s ≤ j
      · rw [if_pos c, if_pos c]
        exact h2 (j - s) (by omega)
      · rw [if_neg c, if_neg c]
theorem sh_lt {s r : Nat} {A B : Nat → Nat} (h : s < r) (ha : A 0 ≠ 0) : gtL (shZ s A) (shZ r B) := by
  refine ⟨s, ?_, fun j hj => ?_⟩
  · unfold shZ
    rw [if_neg (by omega), if_pos (Nat.le_refl s), Nat.sub_self]
    omega
  · unfold shZ
    rw [if_neg (by omega), if_neg (by omega)]
