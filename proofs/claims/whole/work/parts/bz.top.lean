/-! the least top: the class's is the Model's -/
theorem t4095 {i : Nat} : (4095 : Nat).testBit i = decide (i < 12) := Nat.testBit_two_pow_sub_one 12 i
theorem cm_bit {nm x i : Nat} : ((2 ^ nm - 1) &&& (4095 ^^^ x)).testBit i = (decide (i < nm) && (decide (i < 12) != x.testBit i)) := by
  rw [Nat.testBit_and, Nat.testBit_two_pow_sub_one, Nat.testBit_xor, t4095]
theorem cl_up {bt : Nat → Nat} {nm : Nat} : ∀ (k a s : Nat) (i : Nat), s.testBit i = true → (clI bt nm k a s).testBit i = true
  | 0, _, _, _, h => h
  | k + 1, a, s, i, h => by
    refine cl_up k (a + 1) _ i ?_
    split
    · rw [Nat.testBit_or, h]
      rfl
    · exact h
theorem cl_lt {bt : Nat → Nat} {nm : Nat} : ∀ (k a s : Nat), s < 2 ^ nm → clI bt nm k a s < 2 ^ nm
  | 0, _, _, h => h
  | k + 1, a, s, h => by
    refine cl_lt k (a + 1) _ ?_
    split
    · refine Nat.or_lt_two_pow h ?_
      have := Nat.and_le_left (n := 2 ^ nm - 1) (m := 4095 ^^^ bt a)
      have := Nat.two_pow_pos nm
      omega
    · exact h
theorem cl_in {bt : Nat → Nat} {nm T : Nat} (hn : nm ≤ 12) (ht : dmP bt nm T) : ∀ (k a s : Nat), k + a = nm → (∀ i, s.testBit i = true → T.testBit i = true) → ∀ i, (clI bt nm k a s).testBit i = true → T.testBit i = true
  | 0, _, _, _, h => h
  | k + 1, a, s, hk, h => by
    refine cl_in hn ht k (a + 1) _ (by omega) fun i hi => ?_
    split at hi
    · rename_i c
      rw [Nat.testBit_or, cm_bit, Bool.or_eq_true] at hi
      cases hi with
      | inl hi => exact h i hi
      | inr hi =>
        rw [Bool.and_eq_true] at hi
        have i1 : i < nm := of_decide_eq_true hi.1
        have i2 : (bt a).testBit i = false := by
          have := hi.2
          rw [decide_eq_true (show i < 12 by omega)] at this
          cases x : (bt a).testBit i with
          | false => rfl
          | true => rw [x] at this; cases this
        cases x : T.testBit i with
        | true => rfl
        | false =>
          have := ht.2.2 a i (by omega) i1 (h a c) x
          rw [i2] at this
          cases this
    · exact h i hi
theorem cl_st {bt : Nat → Nat} {nm : Nat} (hn : nm ≤ 12) : ∀ (k a s : Nat), k + a = nm → clI bt nm k a s = s → ∀ x, a ≤ x → x < nm → s.testBit x = true → ∀ b, b < nm → (bt x).testBit b = false → s.testBit b = true
  | 0, a, s, hk, _, x, h1, h2, _, _, _, _ => absurd h1 (by omega)
  | k + 1, a, s, hk, e, x, h1, h2, sx, b, hb, bx => by
    change clI bt nm k (a + 1) (if s.testBit a = true then s ||| ((2 ^ nm - 1) &&& (4095 ^^^ bt a)) else s) = s at e
    by_cases c : s.testBit a = true
    · rw [if_pos c] at e
      have up := cl_up (bt := bt) (nm := nm) k (a + 1) (s ||| ((2 ^ nm - 1) &&& (4095 ^^^ bt a)))
      rw [e] at up
      by_cases z : x = a
      · refine up b ?_
        rw [z] at bx
        rw [Nat.testBit_or, cm_bit, bx, decide_eq_true hb, decide_eq_true (show b < 12 by omega), Bool.or_eq_true]
        exact Or.inr rfl
      · have es : s ||| ((2 ^ nm - 1) &&& (4095 ^^^ bt a)) = s := Nat.eq_of_testBit_eq fun i => by
          cases y : s.testBit i with
          | true => rw [Nat.testBit_or, y]; rfl
          | false =>
            cases w : (s ||| ((2 ^ nm - 1) &&& (4095 ^^^ bt a))).testBit i with
            | false => rfl
            | true =>
              have := up i w
              rw [y] at this
              cases this
        rw [es] at e
        exact cl_st hn k (a + 1) s (by omega) e x (by omega) h2 sx b hb bx
    · rw [if_neg c] at e
      have z : x ≠ a := fun z => c (by rw [← z]; exact sx)
      exact cl_st hn k (a + 1) s (by omega) e x (by omega) h2 sx b hb bx
theorem clO_fix {bt : Nat → Nat} {nm s : Nat} (e : clI bt nm nm 0 s = s) : ∀ r, clO bt nm r s = s
  | 0 => rfl
  | r + 1 => by
    show clO bt nm r (clI bt nm nm 0 s) = s
    rw [e]
    exact clO_fix e r
theorem clO_go {bt : Nat → Nat} {nm : Nat} : ∀ r s, (clI bt nm nm 0 (clO bt nm r s) = clO bt nm r s ∨ pcN s 12 + r ≤ pcN (clO bt nm r s) 12 ∨ ¬ s < 2 ^ nm ∨ ¬ nm ≤ 12) ∧ (s < 2 ^ nm → clO bt nm r s < 2 ^ nm) ∧ ∀ i, s.testBit i = true → (clO bt nm r s).testBit i = true
  | 0, s => ⟨Or.inr (Or.inl (Nat.le_refl _)), id, fun _ h => h⟩
  | r + 1, s => by
    obtain ⟨h1, h2, h3⟩ := clO_go (bt := bt) (nm := nm) r (clI bt nm nm 0 s)
    have up := cl_up (bt := bt) (nm := nm) nm 0 s
    have lt := cl_lt (bt := bt) (nm := nm) nm 0 s
    refine ⟨?_, fun h => h2 (lt h), fun i hi => h3 i (up i hi)⟩
    show clI bt nm nm 0 (clO bt nm r (clI bt nm nm 0 s)) = clO bt nm r (clI bt nm nm 0 s) ∨ pcN s 12 + (r + 1) ≤ pcN (clO bt nm r (clI bt nm nm 0 s)) 12 ∨ _
    by_cases e : clI bt nm nm 0 s = s
    · left
      rw [e, clO_fix e r, e]
    · cases h1 with
      | inl h1 => exact Or.inl h1
      | inr h1 =>
        right
        by_cases c : s < 2 ^ nm
        · by_cases c2 : nm ≤ 12
          · cases h1 with
            | inl h1 =>
              left
              have p := pc_sub up 12
              have ne : pcN s 12 ≠ pcN (clI bt nm nm 0 s) 12 := fun z => e (Nat.eq_of_testBit_eq fun i => by
                by_cases c3 : i < 12
                · exact (p.2 z i c3).symm
                · rw [tb_nm c (by omega), tb_nm (lt c) (by omega)])
              omega
            | inr h1 =>
              cases h1 with
              | inl h1 => exact absurd (lt c) h1
              | inr h1 => exact absurd c2 h1
          · exact Or.inr (Or.inr c2)
        · exact Or.inr (Or.inl c)
theorem pc_nm {S nm : Nat} (h : S < 2 ^ nm) : ∀ k, pcN S k ≤ min k nm
  | 0 => Nat.zero_le _
  | k + 1 => by
    have ih := pc_nm h k
    have e : pcN S (k + 1) = pcN S k + (S >>> k) % 2 := rfl
    by_cases c : k < nm
    · omega
    · rw [bt01, tb_nm h (by omega), if_neg Bool.false_ne_true] at e
      omega
theorem cl_dm {bt : Nat → Nat} {nm x : Nat} (hn : nm ≤ 12) (hx : x < nm) : dmP bt nm (clO bt nm nm (2 ^ x)) ∧ ∀ T, dmP bt nm T → T.testBit x = true → pcN (clO bt nm nm (2 ^ x)) 12 ≤ pcN T 12 := by
  have x2 : 2 ^ x < 2 ^ nm := Nat.pow_lt_pow_right (by decide) hx
  obtain ⟨h1, h2, h3⟩ := clO_go (bt := bt) (nm := nm) nm (2 ^ x)
  have lt := h2 x2
  have bx := h3 x (by rw [Nat.testBit_two_pow_self])
  have p1 : 1 ≤ pcN (2 ^ x) 12 := by
    have := (pc_sub (S := 0) (T := 2 ^ x) (fun i hi => by rw [Nat.zero_testBit] at hi; cases hi) 12)
    have z : pcN 0 12 = 0 := by decide
    by_cases c : pcN (2 ^ x) 12 = 0
    · have := this.2 (by omega) x (by omega)
      rw [Nat.zero_testBit, Nat.testBit_two_pow_self] at this
      cases this
    · omega
  have pn := pc_nm lt 12
  have st : clI bt nm nm 0 (clO bt nm nm (2 ^ x)) = clO bt nm nm (2 ^ x) := by
    cases h1 with
    | inl h1 => exact h1
    | inr h1 =>
      cases h1 with
      | inl h1 => omega
      | inr h1 =>
        cases h1 with
        | inl h1 => exact absurd x2 h1
        | inr h1 => exact absurd hn h1
  refine ⟨⟨lt, (fun z => by rw [z, Nat.zero_testBit] at bx; cases bx), fun a b ha hb sa sb => ?_⟩, fun T ht tx => ?_⟩
  · cases y : (bt a).testBit b with
    | true => rfl
    | false =>
      have := cl_st hn nm 0 _ (by omega) st a (Nat.zero_le a) ha sa b hb y
      rw [sb] at this
      cases this
  · refine (pc_sub ?_ 12).1
    have go : ∀ r s, (∀ i, s.testBit i = true → T.testBit i = true) → ∀ i, (clO bt nm r s).testBit i = true → T.testBit i = true := by
      intro r
      induction r with
      | zero => intro s h; exact h
      | succ r ih => intro s h; exact ih _ (cl_in hn ht nm 0 s (by omega) h)
    refine go nm (2 ^ x) fun i hi => ?_
    rw [Nat.testBit_two_pow] at hi
    rw [← of_decide_eq_true hi]
    exact tx
theorem dom_iff {bt : Nat → Nat} {nm s : Nat} (hn : nm ≤ 12) : domB bt nm s nm = true ↔ ∀ a b, a < nm → b < nm → s.testBit a = true → s.testBit b = false → (bt a).testBit b = true := by
  have e : ∀ a, (((2 ^ nm - 1) &&& (4095 ^^^ s)) &&& (4095 ^^^ bt a) = 0) ↔ ∀ b, b < nm → s.testBit b = false → (bt a).testBit b = true := fun a => by
    have bit : ∀ i, (((2 ^ nm - 1) &&& (4095 ^^^ s)) &&& (4095 ^^^ bt a)).testBit i = (decide (i < nm) && (decide (i < 12) != s.testBit i) && (decide (i < 12) != (bt a).testBit i)) := fun i => by
      rw [Nat.testBit_and, cm_bit, Nat.testBit_xor, t4095]
    constructor
    · intro z b hb sb
      have := bit b
      rw [z, Nat.zero_testBit, decide_eq_true hb, decide_eq_true (show b < 12 by omega), sb] at this
      cases x : (bt a).testBit b with
      | true => rfl
      | false => rw [x] at this; cases this
    · intro z
      refine Nat.eq_of_testBit_eq fun i => ?_
      rw [bit, Nat.zero_testBit]
      by_cases c : i < nm
      · rw [decide_eq_true c, decide_eq_true (show i < 12 by omega)]
        cases x : s.testBit i with
        | true => rfl
        | false => rw [z i c x]; rfl
      · rw [decide_eq_false c]
        rfl
  unfold domB
  rw [allN_iff]
  constructor
  · intro z a b ha hb sa sb
    have := z a ha
    rw [sa, Bool.not_true, Bool.false_or, beq_iff_eq] at this
    exact (e a).mp this b hb sb
  · intro z a ha
    cases x : s.testBit a with
    | false => rfl
    | true =>
      rw [Bool.not_true, Bool.false_or, beq_iff_eq]
      exact (e a).mpr fun b hb sb => z a b ha hb x sb
theorem tpF_go {bt : Nat → Nat} {nm : Nat} (hn : nm ≤ 12) (h0 : 0 < nm) : ∀ k s b, k + s = nm → (b = 0 ∧ s = 0 ∨ dmP bt nm b ∧ ∀ x, x < s → pcN b 12 ≤ pcN (clO bt nm nm (2 ^ x)) 12) → dmP bt nm (tpF bt nm k s b) ∧ ∀ x, x < nm → pcN (tpF bt nm k s b) 12 ≤ pcN (clO bt nm nm (2 ^ x)) 12
  | 0, s, b, hk, h => by
    cases h with
    | inl h => omega
    | inr h => exact ⟨h.1, fun x hx => h.2 x (by omega)⟩
  | k + 1, s, b, hk, h => by
    obtain ⟨d1, d2⟩ := cl_dm (bt := bt) hn (show s < nm by omega)
    refine tpF_go hn h0 k (s + 1) _ (by omega) (Or.inr ?_)
    by_cases c : b = 0 ∨ pcN (clO bt nm nm (2 ^ s)) 12 < pcN b 12
    · rw [if_pos c]
      refine ⟨d1, fun x hx => ?_⟩
      by_cases e : x = s
      · rw [e]
        exact Nat.le_refl _
      · cases h with
        | inl h => omega
        | inr h =>
          have := h.2 x (by omega)
          cases c with
          | inl c => exact absurd c h.1.2.1
          | inr c => omega
    · rw [if_neg c]
      cases h with
      | inl h => exact absurd (Or.inl h.1) c
      | inr h =>
        refine ⟨h.1, fun x hx => ?_⟩
        by_cases e : x = s
        · rw [e]
          exact Nat.le_of_not_lt fun z => c (Or.inr z)
        · exact h.2 x (by omega)
theorem tpM_go {bt : Nat → Nat} {nm : Nat} (hn : nm ≤ 12) (h0 : 0 < nm) : ∀ k, k < 2 ^ nm → dmP bt nm (tpM bt nm k) ∧ ∀ T, T ≤ k → dmP bt nm T → pcN (tpM bt nm k) 12 ≤ pcN T 12
  | 0, _ => by
    have p := Nat.pow_lt_pow_right (a := 2) (by decide) h0
    refine ⟨⟨show 2 ^ nm - 1 < 2 ^ nm by omega, show 2 ^ nm - 1 ≠ 0 by omega, fun a b _ hb _ sb => ?_⟩, fun T hT ht => absurd (Nat.le_zero.mp hT) ht.2.1⟩
    have : (2 ^ nm - 1).testBit b = false := sb
    rw [Nat.testBit_two_pow_sub_one, decide_eq_true hb] at this
    cases this
  | k + 1, hk => by
    obtain ⟨h1, h2⟩ := tpM_go (bt := bt) hn h0 k (by omega)
    have e : tpM bt nm (k + 1) = if pcN (k + 1) 12 < pcN (tpM bt nm k) 12 ∧ domB bt nm (k + 1) nm = true then k + 1 else tpM bt nm k := rfl
    by_cases c : pcN (k + 1) 12 < pcN (tpM bt nm k) 12 ∧ domB bt nm (k + 1) nm = true
    · rw [e, if_pos c]
      refine ⟨⟨hk, Nat.succ_ne_zero k, (dom_iff hn).mp c.2⟩, fun T hT ht => ?_⟩
      by_cases z : T = k + 1
      · rw [z]
        exact Nat.le_refl _
      · have := h2 T (by omega) ht
        omega
    · rw [e, if_neg c]
      refine ⟨h1, fun T hT ht => ?_⟩
      by_cases z : T = k + 1
      · rw [z] at ht ⊢
        exact Nat.le_of_not_lt fun y => c ⟨y, (dom_iff hn).mpr ht.2.2⟩
      · exact h2 T (by omega) ht
/-- the least top is the same on both sides -/
theorem tp_eq {bt : Nat → Nat} {nm : Nat} (hn : nm ≤ 12) (hp : btP bt nm) : tpM bt nm (2 ^ nm - 1) = tpF bt nm nm 0 0 := by
  by_cases h0 : 0 < nm
  · obtain ⟨f1, f2⟩ := tpF_go (bt := bt) hn h0 nm 0 0 (by omega) (Or.inl ⟨rfl, rfl⟩)
    have p := Nat.two_pow_pos nm
    obtain ⟨m1, m2⟩ := tpM_go (bt := bt) hn h0 (2 ^ nm - 1) (by omega)
    have l1 := m2 _ (by have := f1.1; omega) f1
    have l2 : pcN (tpF bt nm nm 0 0) 12 ≤ pcN (tpM bt nm (2 ^ nm - 1)) 12 := by
      generalize tpM bt nm (2 ^ nm - 1) = T at *
      by_cases c : ∃ x, T.testBit x = true
      · obtain ⟨x, hx⟩ := c
        have xn : x < nm := by
          by_cases z : x < nm
          · exact z
          · rw [tb_nm m1.1 (by omega)] at hx
            cases hx
        exact Nat.le_trans (f2 x xn) ((cl_dm (bt := bt) hn xn).2 T m1 hx)
      · refine absurd (Nat.eq_of_testBit_eq fun i => ?_) m1.2.1
        rw [Nat.zero_testBit]
        cases z : T.testBit i with
        | false => rfl
        | true => exact absurd ⟨i, z⟩ c
    exact dm_uniq hn hp m1 f1 (by omega)
  · have e : nm = 0 := by omega
    subst e
    rfl
