/-! the least top: sets that beat all without them -/
theorem bt01 (n k : Nat) : (n >>> k) % 2 = if n.testBit k = true then 1 else 0 := by
  rw [Nat.testBit_eq_decide_div_mod_eq, Nat.shiftRight_eq_div_pow]
  by_cases c : n / 2 ^ k % 2 = 1
  · rw [if_pos (decide_eq_true c), c]
  · rw [if_neg (by rw [decide_eq_false c]; exact Bool.false_ne_true)]
    omega
theorem pc_sub {S T : Nat} (h : ∀ i, S.testBit i = true → T.testBit i = true) : ∀ k, pcN S k ≤ pcN T k ∧ (pcN S k = pcN T k → ∀ i, i < k → S.testBit i = T.testBit i)
  | 0 => ⟨Nat.le_refl _, fun _ i hi => absurd hi (Nat.not_lt_zero i)⟩
  | k + 1 => by
    obtain ⟨h1, h2⟩ := pc_sub h k
    have e1 : pcN S (k + 1) = pcN S k + (S >>> k) % 2 := rfl
    have e2 : pcN T (k + 1) = pcN T k + (T >>> k) % 2 := rfl
    have b : (S >>> k) % 2 ≤ (T >>> k) % 2 ∧ ((S >>> k) % 2 = (T >>> k) % 2 → S.testBit k = T.testBit k) := by
      rw [bt01, bt01]
      have := h k
      cases x : S.testBit k <;> cases y : T.testBit k
      · exact ⟨Nat.le_refl _, fun _ => rfl⟩
      · exact ⟨Nat.zero_le _, fun z => by cases z⟩
      · rw [x, y] at this
        exact absurd (this rfl) Bool.false_ne_true
      · exact ⟨Nat.le_refl _, fun _ => rfl⟩
    refine ⟨by omega, fun e i hi => ?_⟩
    by_cases c : i = k
    · rw [c]
      exact b.2 (by omega)
    · exact h2 (by omega) i (by omega)
/-- all in S beat all that are not in it, and there is one in it -/
abbrev dmP (bt : Nat → Nat) (nm S : Nat) : Prop := S < 2 ^ nm ∧ S ≠ 0 ∧ ∀ a b, a < nm → b < nm → S.testBit a = true → S.testBit b = false → (bt a).testBit b = true
theorem tb_nm {S nm i : Nat} (h : S < 2 ^ nm) (hi : nm ≤ i) : S.testBit i = false := Nat.testBit_lt_two_pow (Nat.lt_of_lt_of_le h (Nat.pow_le_pow_right (by decide) hi))
/-- of two such sets one lies in the other -/
theorem dm_chain {bt : Nat → Nat} {nm S T : Nat} (hp : btP bt nm) (hs : dmP bt nm S) (ht : dmP bt nm T) : (∀ i, S.testBit i = true → T.testBit i = true) ∨ ∀ i, T.testBit i = true → S.testBit i = true := by
  by_cases c : ∀ i, S.testBit i = true → T.testBit i = true
  · exact Or.inl c
  · right
    obtain ⟨a, ha⟩ := Classical.not_forall.mp c
    have sa : S.testBit a = true := by
      cases x : S.testBit a with
      | true => rfl
      | false => exact absurd (fun z => by rw [x] at z; cases z) ha
    have ta : T.testBit a = false := by
      cases x : T.testBit a with
      | false => rfl
      | true => exact absurd (fun _ => x) ha
    have an : a < nm := by
      by_cases z : a < nm
      · exact z
      · rw [tb_nm hs.1 (by omega)] at sa
        cases sa
    intro b tb
    have bn : b < nm := by
      by_cases z : b < nm
      · exact z
      · rw [tb_nm ht.1 (by omega)] at tb
        cases tb
    cases sb : S.testBit b with
    | true => rfl
    | false =>
      have x := hs.2.2 a b an bn sa sb
      have y := ht.2.2 b a bn an tb ta
      have := ((hp a an).2 b x).2
      rw [y] at this
      cases this
/-- of the same number of NAMES, they are the same -/
theorem dm_uniq {bt : Nat → Nat} {nm S T : Nat} (hn : nm ≤ 12) (hp : btP bt nm) (hs : dmP bt nm S) (ht : dmP bt nm T) (e : pcN S 12 = pcN T 12) : S = T := by
  have go : ∀ S T, dmP bt nm S → dmP bt nm T → (∀ i, S.testBit i = true → T.testBit i = true) → pcN S 12 = pcN T 12 → S = T := fun S T hs ht h e => by
    refine Nat.eq_of_testBit_eq fun i => ?_
    by_cases c : i < 12
    · exact (pc_sub h 12).2 e i c
    · rw [tb_nm hs.1 (by omega), tb_nm ht.1 (by omega)]
  cases dm_chain hp hs ht with
  | inl h => exact go S T hs ht h e
  | inr h => exact (go T S ht hs h e.symm).symm
