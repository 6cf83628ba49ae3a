/-! what is cut off is not good: words that are fair, or in which told dice beat -/
theorem wn_bt {w : Nat → Nat} {a b : Nat} (h : a ≠ b) : ∀ k, wn a b (lstW w k) = btW w a b k
  | 0 => rfl
  | k + 1 => by
    show wn a b (lstW w k) + (if a = w k ∧ b ≠ w k then cn b (lstW w k) else 0) = btW w a b k + if w k = a then cnW w b k else 0
    rw [wn_bt h k, cn_lst]
    by_cases c : w k = a
    · rw [if_pos ⟨c.symm, fun z => h (c.symm.trans z.symm)⟩, if_pos c]
    · rw [if_neg fun z => c z.1.symm, if_neg c]
theorem bt_bb (w : Nat → Nat) (a b : Nat) : ∀ k, btW w a b k = bb w a (bb w b o1) k
  | 0 => rfl
  | k + 1 => by
    show btW w a b k + (if w k = a then cnW w b k else 0) = bb w a (bb w b o1) k + if w k = a then bb w b o1 k else 0
    rw [bt_bb w a b k, cn_bb]
theorem bt_sum {w : Nat → Nat} {a b : Nat} (h : a ≠ b) (k : Nat) : btW w a b k + btW w b a k = cnW w a k * cnW w b k := by
  rw [bt_bb, bt_bb, cn2 h]
/-- told pairs -/
theorem tld_iff {B : Nat → Int} {n : Int} (hb : ∀ i, 0 ≤ B i ∧ B i ≤ 255) (hn : n ≤ 4) {a b : Nat} (h4 : b < 4) : ∀ k, (∀ i, i < k → laP B n i) → (tld (wtB B k) a b ↔ ∃ p, p < k ∧ a = (B (2 * p)).toNat ∧ b = (B (2 * p + 1)).toNat)
  | 0, _ => by
    show (0 : Nat).testBit _ = true ↔ _
    rw [Nat.zero_testBit]
    exact ⟨fun z => (by cases z), fun ⟨p, h, _⟩ => absurd h (by omega)⟩
  | k + 1, h => by
    have ih := tld_iff (a := a) hb hn h4 k fun i hi => h i (by omega)
    change (wtB B k).testBit (4 * a + b) = true ↔ _ at ih
    have l := h k (by omega)
    have b2 := hb (2 * k + 1)
    show (wtB B k ||| 2 ^ (4 * (B (2 * k)).toNat + (B (2 * k + 1)).toNat)).testBit (4 * a + b) = true ↔ _
    rw [Nat.testBit_or, Bool.or_eq_true, ih, Nat.testBit_two_pow]
    constructor
    · rintro (⟨p, h1, h2⟩ | z)
      · exact ⟨p, by omega, h2⟩
      · have := of_decide_eq_true z
        exact ⟨k, by omega, by omega, by omega⟩
    · rintro ⟨p, h1, h2, h3⟩
      by_cases z : p = k
      · right
        rw [z] at h2 h3
        exact decide_eq_true (by omega)
      · exact Or.inl ⟨p, by omega, h2, h3⟩
theorem fi_nat (f c w : Nat) (h : c ≤ f) : ((f : Int) * f < 2 * ((w : Int) + ((f : Int) - c) * f)) ↔ f * f < 2 * (w + (f - c) * f) := by
  have e : ((f : Int) - c) * f = (((f - c) * f : Nat) : Int) := by rw [Int.natCast_mul, Int.natCast_sub h]
  have e2 : (f : Int) * f = ((f * f : Nat) : Int) := (Int.natCast_mul _ _).symm
  rw [e, e2]
  omega
/-- told dice beat: the class's test at the end, and the Model's -/
theorem la_ok {B : Nat → Int} {n f np : Nat} (hb : ∀ i, 0 ≤ B i ∧ B i ≤ 255) (hn : n ≤ 4) (hp : ∀ i, i < np → laP B n i) {w : Nat → Nat} (pw : wdP2 n f (n * f) w) : (okP n f 0 (wtB B np) (lstW w (n * f)) ↔ laG B np n f w) ∧ (laG B np n f w → ∀ j, j ≤ n * f → okP n f 0 (wtB B np) (lstW w j)) := by
  have cw : ∀ a j, a < n → j ≤ n * f → cnW w a j ≤ f := fun a j ha hj => by
    rw [← pw.2 a ha]
    exact cnW_mono w a hj
  have ok : ∀ j, j ≤ n * f → (okP n f 0 (wtB B np) (lstW w j) ↔ ∀ a b, a < n → b < n → tld (wtB B np) a b → f * f < 2 * (wn a b (lstW w j) + (f - cnW w a j) * f)) := fun j hj => by
    show (if (0 : Nat) = 0 then ∀ a b, a < n → b < n → tld (wtB B np) a b → cbP f a b (lstW w j) else _) ↔ _
    rw [if_pos rfl]
    constructor
    · intro h a b ha hb' ht
      have := h a b ha hb' ht
      unfold cbP at this
      rw [cn_lst] at this
      exact (fi_nat f _ _ (cw a j ha hj)).mp this
    · intro h a b ha hb' ht
      unfold cbP
      rw [cn_lst]
      exact (fi_nat f _ _ (cw a j ha hj)).mpr (h a b ha hb' ht)
  have ne : ∀ p, p < np → (B (2 * p)).toNat < n ∧ (B (2 * p + 1)).toNat < n ∧ (B (2 * p)).toNat ≠ (B (2 * p + 1)).toNat := fun p h => by
    have l := hp p h
    have := hb (2 * p)
    have := hb (2 * p + 1)
    omega
  refine ⟨?_, fun h j hj => ?_⟩
  · rw [ok _ (Nat.le_refl _)]
    constructor
    · intro h p hpp
      obtain ⟨x, y, z⟩ := ne p hpp
      have := h _ _ x y ((tld_iff hb (show (n : Int) ≤ 4 by omega) (by omega) np hp).mpr ⟨p, hpp, rfl, rfl⟩)
      rw [pw.2 _ x, wn_bt z, Nat.sub_self, Nat.zero_mul] at this
      exact this
    · intro h a b ha hb' ht
      obtain ⟨p, p1, p2, p3⟩ := (tld_iff hb (show (n : Int) ≤ 4 by omega) (by omega) np hp).mp ht
      obtain ⟨x, y, z⟩ := ne p p1
      have := h p p1
      rw [pw.2 a ha, Nat.sub_self, Nat.zero_mul, p2, p3, wn_bt z]
      exact this
  · rw [ok j hj]
    intro a b ha hb' ht
    obtain ⟨p, p1, p2, p3⟩ := (tld_iff hb (show (n : Int) ≤ 4 by omega) (by omega) np hp).mp ht
    obtain ⟨x, y, z⟩ := ne p p1
    have hl := h p p1
    dsimp only at hl
    rw [← p2, ← p3] at hl z
    rw [wn_bt z]
    -- what may still come makes up for it
    have mono : ∀ k, j + k ≤ n * f → btW w a b (j + k) + (f - cnW w a (j + k)) * f ≤ btW w a b j + (f - cnW w a j) * f := fun k => by
      induction k with
      | zero => intro _; exact Nat.le_refl _
      | succ k ih =>
        intro hk
        have ih := ih (by omega)
        refine Nat.le_trans ?_ ih
        show btW w a b (j + k) + (if w (j + k) = a then cnW w b (j + k) else 0) + (f - (cnW w a (j + k) + if w (j + k) = a then 1 else 0)) * f ≤ _
        by_cases c : w (j + k) = a
        · rw [if_pos c, if_pos c]
          have c1 := cw b (j + k) hb' (by omega)
          have c2 := cw a (j + k + 1) ha hk
          have e : cnW w a (j + k + 1) = cnW w a (j + k) + if w (j + k) = a then 1 else 0 := rfl
          rw [if_pos c] at e
          have e2 : f - cnW w a (j + k) = (f - (cnW w a (j + k) + 1)) + 1 := by omega
          rw [e2, Nat.add_mul, Nat.one_mul]
          omega
        · rw [if_neg c, if_neg c]
          exact Nat.le_refl _
    have := mono (n * f - j) (by omega)
    rw [show j + (n * f - j) = n * f by omega, pw.2 a ha, Nat.sub_self, Nat.zero_mul] at this
    omega
/-- two dice that are to beat one another: no word -/
theorem la_cr {B : Nat → Int} {n f np : Nat} (hb : ∀ i, 0 ≤ B i ∧ B i ≤ 255) (hn : n ≤ 4) (hp : ∀ i, i < np → laP B n i) (hc : crP (wtB B np)) {w : Nat → Nat} (pw : wdP2 n f (n * f) w) : ¬ laG B np n f w := fun h => by
  obtain ⟨a, b, ha, hba, t1, t2⟩ := hc
  obtain ⟨p, p1, p2, p3⟩ := (tld_iff hb (show (n : Int) ≤ 4 by omega) (show b < 4 by omega) np hp).mp t1
  obtain ⟨q, q1, q2, q3⟩ := (tld_iff hb (show (n : Int) ≤ 4 by omega) (show a < 4 by omega) np hp).mp t2
  have l1 := h p p1
  have l2 := h q q1
  dsimp only at l1 l2
  rw [← p2, ← p3] at l1
  rw [← q2, ← q3] at l2
  have an : a < n := by
    have l := hp p p1
    have := hb (2 * p)
    omega
  have bn : b < n := by
    have l := hp q q1
    have := hb (2 * q)
    omega
  have s := bt_sum (w := w) (show a ≠ b by omega) (n * f)
  rw [pw.2 a an, pw.2 b bn] at s
  omega
theorem smN_k {w : Nat → Nat} {d K : Nat} : ∀ L, smN (fun i => if w i = d then K else 0) L = K * cnW w d L
  | 0 => (Nat.mul_zero K).symm
  | L + 1 => by
    show smN (fun i => if w i = d then K else 0) L + (if w L = d then K else 0) = K * (cnW w d L + if w L = d then 1 else 0)
    rw [smN_k L, Nat.mul_add]
    by_cases c : w L = d
    · rw [if_pos c, if_pos c, Nat.mul_one]
    · rw [if_neg c, if_neg c]
      rfl
theorem tot_f2 {w : Nat → Nat} {f : Nat} (pw : wdP2 2 f (2 * f) w) : tot2 w (2 * f) = f ^ 2 := by
  have s := (sums2 w (2 * f)).1
  rw [← s]
  rw [show plM w (2 * f) 2 0 0 = mS w (2 * f) 2 0 0 + 0 from by rw [pl_mS, show flL (fun s => decide (s.testBit 0 = false ∧ pcN s 12 = 0)) (2 ^ 2) = [0] from by decide +kernel]; rfl, show plM w (2 * f) 2 0 1 = mS w (2 * f) 2 0 2 + 0 from by rw [pl_mS, show flL (fun s => decide (s.testBit 0 = false ∧ pcN s 12 = 1)) (2 ^ 2) = [2] from by decide +kernel]; rfl]
  have a : mS w (2 * f) 2 0 0 + mS w (2 * f) 2 0 2 = smN (fun i => if w i = 0 then f ^ 1 else 0) (2 * f) := by
    unfold mS
    rw [← smN_ad]
    refine smN_cg _ fun i hi => ?_
    by_cases c : w i = 0
    · simp only [if_pos c]
      show ((1 * 1) * (cnW w 1 (2 * f) - cnW w 1 (i + 1))) + ((1 * 1) * cnW w 1 i) = _
      have h1 : ∃ A B, cnW w 1 i = A ∧ cnW w 1 (2 * f) - cnW w 1 (i + 1) = B ∧ A + B = f := by
        have e : cnW w 1 (i + 1) = cnW w 1 i + if w i = 1 then 1 else 0 := rfl
        rw [if_neg (by omega)] at e
        have m := cnW_mono w 1 (show i ≤ 2 * f by omega)
        have z := pw.2 1 (by omega)
        exact ⟨_, _, rfl, rfl, by omega⟩
      obtain ⟨A1, B1, a1, b1, s1⟩ := h1
      rw [a1, b1]
      have p : f ^ 1 = (A1 + B1) := by
        rw [s1]
        simp only [Nat.pow_succ, Nat.pow_zero, Nat.one_mul]
      rw [p]
      simp only [Nat.add_mul, Nat.mul_add, Nat.one_mul, Nat.mul_one]
      omega
    · simp only [if_neg c]
  have z : smN (fun i => if w i = 0 then f ^ 1 else 0) (2 * f) = f ^ 2 := by
    rw [smN_k, pw.2 0 (by omega)]
    rfl
  omega
theorem tot_f3 {w : Nat → Nat} {f : Nat} (pw : wdP2 3 f (3 * f) w) : tot3 w (3 * f) = f ^ 3 := by
  have s := (sums3 w (3 * f)).1
  rw [← s]
  rw [show plM w (3 * f) 3 0 0 = mS w (3 * f) 3 0 0 + 0 from by rw [pl_mS, show flL (fun s => decide (s.testBit 0 = false ∧ pcN s 12 = 0)) (2 ^ 3) = [0] from by decide +kernel]; rfl, show plM w (3 * f) 3 0 1 = mS w (3 * f) 3 0 2 + (mS w (3 * f) 3 0 4 + 0) from by rw [pl_mS, show flL (fun s => decide (s.testBit 0 = false ∧ pcN s 12 = 1)) (2 ^ 3) = [2, 4] from by decide +kernel]; rfl, show plM w (3 * f) 3 0 2 = mS w (3 * f) 3 0 6 + 0 from by rw [pl_mS, show flL (fun s => decide (s.testBit 0 = false ∧ pcN s 12 = 2)) (2 ^ 3) = [6] from by decide +kernel]; rfl]
  have a : mS w (3 * f) 3 0 0 + mS w (3 * f) 3 0 2 + mS w (3 * f) 3 0 4 + mS w (3 * f) 3 0 6 = smN (fun i => if w i = 0 then f ^ 2 else 0) (3 * f) := by
    unfold mS
    rw [← smN_ad, ← smN_ad, ← smN_ad]
    refine smN_cg _ fun i hi => ?_
    by_cases c : w i = 0
    · simp only [if_pos c]
      show (((1 * 1) * (cnW w 1 (3 * f) - cnW w 1 (i + 1))) * (cnW w 2 (3 * f) - cnW w 2 (i + 1))) + (((1 * 1) * cnW w 1 i) * (cnW w 2 (3 * f) - cnW w 2 (i + 1))) + (((1 * 1) * (cnW w 1 (3 * f) - cnW w 1 (i + 1))) * cnW w 2 i) + (((1 * 1) * cnW w 1 i) * cnW w 2 i) = _
      have h1 : ∃ A B, cnW w 1 i = A ∧ cnW w 1 (3 * f) - cnW w 1 (i + 1) = B ∧ A + B = f := by
        have e : cnW w 1 (i + 1) = cnW w 1 i + if w i = 1 then 1 else 0 := rfl
        rw [if_neg (by omega)] at e
        have m := cnW_mono w 1 (show i ≤ 3 * f by omega)
        have z := pw.2 1 (by omega)
        exact ⟨_, _, rfl, rfl, by omega⟩
      obtain ⟨A1, B1, a1, b1, s1⟩ := h1
      have h2 : ∃ A B, cnW w 2 i = A ∧ cnW w 2 (3 * f) - cnW w 2 (i + 1) = B ∧ A + B = f := by
        have e : cnW w 2 (i + 1) = cnW w 2 i + if w i = 2 then 1 else 0 := rfl
        rw [if_neg (by omega)] at e
        have m := cnW_mono w 2 (show i ≤ 3 * f by omega)
        have z := pw.2 2 (by omega)
        exact ⟨_, _, rfl, rfl, by omega⟩
      obtain ⟨A2, B2, a2, b2, s2⟩ := h2
      rw [a1, b1, a2, b2]
      have p : f ^ 2 = (A1 + B1) * (A2 + B2) := by
        rw [s1, s2]
        simp only [Nat.pow_succ, Nat.pow_zero, Nat.one_mul]
      rw [p]
      simp only [Nat.add_mul, Nat.mul_add, Nat.one_mul, Nat.mul_one]
      omega
    · simp only [if_neg c]
  have z : smN (fun i => if w i = 0 then f ^ 2 else 0) (3 * f) = f ^ 3 := by
    rw [smN_k, pw.2 0 (by omega)]
    rfl
  omega
theorem tot_f4 {w : Nat → Nat} {f : Nat} (pw : wdP2 4 f (4 * f) w) : tot4 w (4 * f) = f ^ 4 := by
  have s := (sums4 w (4 * f)).1
  rw [← s]
  rw [show plM w (4 * f) 4 0 0 = mS w (4 * f) 4 0 0 + 0 from by rw [pl_mS, show flL (fun s => decide (s.testBit 0 = false ∧ pcN s 12 = 0)) (2 ^ 4) = [0] from by decide +kernel]; rfl, show plM w (4 * f) 4 0 1 = mS w (4 * f) 4 0 2 + (mS w (4 * f) 4 0 4 + (mS w (4 * f) 4 0 8 + 0)) from by rw [pl_mS, show flL (fun s => decide (s.testBit 0 = false ∧ pcN s 12 = 1)) (2 ^ 4) = [2, 4, 8] from by decide +kernel]; rfl, show plM w (4 * f) 4 0 2 = mS w (4 * f) 4 0 6 + (mS w (4 * f) 4 0 10 + (mS w (4 * f) 4 0 12 + 0)) from by rw [pl_mS, show flL (fun s => decide (s.testBit 0 = false ∧ pcN s 12 = 2)) (2 ^ 4) = [6, 10, 12] from by decide +kernel]; rfl, show plM w (4 * f) 4 0 3 = mS w (4 * f) 4 0 14 + 0 from by rw [pl_mS, show flL (fun s => decide (s.testBit 0 = false ∧ pcN s 12 = 3)) (2 ^ 4) = [14] from by decide +kernel]; rfl]
  have a : mS w (4 * f) 4 0 0 + mS w (4 * f) 4 0 2 + mS w (4 * f) 4 0 4 + mS w (4 * f) 4 0 8 + mS w (4 * f) 4 0 6 + mS w (4 * f) 4 0 10 + mS w (4 * f) 4 0 12 + mS w (4 * f) 4 0 14 = smN (fun i => if w i = 0 then f ^ 3 else 0) (4 * f) := by
    unfold mS
    rw [← smN_ad, ← smN_ad, ← smN_ad, ← smN_ad, ← smN_ad, ← smN_ad, ← smN_ad]
    refine smN_cg _ fun i hi => ?_
    by_cases c : w i = 0
    · simp only [if_pos c]
      show ((((1 * 1) * (cnW w 1 (4 * f) - cnW w 1 (i + 1))) * (cnW w 2 (4 * f) - cnW w 2 (i + 1))) * (cnW w 3 (4 * f) - cnW w 3 (i + 1))) + ((((1 * 1) * cnW w 1 i) * (cnW w 2 (4 * f) - cnW w 2 (i + 1))) * (cnW w 3 (4 * f) - cnW w 3 (i + 1))) + ((((1 * 1) * (cnW w 1 (4 * f) - cnW w 1 (i + 1))) * cnW w 2 i) * (cnW w 3 (4 * f) - cnW w 3 (i + 1))) + ((((1 * 1) * (cnW w 1 (4 * f) - cnW w 1 (i + 1))) * (cnW w 2 (4 * f) - cnW w 2 (i + 1))) * cnW w 3 i) + ((((1 * 1) * cnW w 1 i) * cnW w 2 i) * (cnW w 3 (4 * f) - cnW w 3 (i + 1))) + ((((1 * 1) * cnW w 1 i) * (cnW w 2 (4 * f) - cnW w 2 (i + 1))) * cnW w 3 i) + ((((1 * 1) * (cnW w 1 (4 * f) - cnW w 1 (i + 1))) * cnW w 2 i) * cnW w 3 i) + ((((1 * 1) * cnW w 1 i) * cnW w 2 i) * cnW w 3 i) = _
      have h1 : ∃ A B, cnW w 1 i = A ∧ cnW w 1 (4 * f) - cnW w 1 (i + 1) = B ∧ A + B = f := by
        have e : cnW w 1 (i + 1) = cnW w 1 i + if w i = 1 then 1 else 0 := rfl
        rw [if_neg (by omega)] at e
        have m := cnW_mono w 1 (show i ≤ 4 * f by omega)
        have z := pw.2 1 (by omega)
        exact ⟨_, _, rfl, rfl, by omega⟩
      obtain ⟨A1, B1, a1, b1, s1⟩ := h1
      have h2 : ∃ A B, cnW w 2 i = A ∧ cnW w 2 (4 * f) - cnW w 2 (i + 1) = B ∧ A + B = f := by
        have e : cnW w 2 (i + 1) = cnW w 2 i + if w i = 2 then 1 else 0 := rfl
        rw [if_neg (by omega)] at e
        have m := cnW_mono w 2 (show i ≤ 4 * f by omega)
        have z := pw.2 2 (by omega)
        exact ⟨_, _, rfl, rfl, by omega⟩
      obtain ⟨A2, B2, a2, b2, s2⟩ := h2
      have h3 : ∃ A B, cnW w 3 i = A ∧ cnW w 3 (4 * f) - cnW w 3 (i + 1) = B ∧ A + B = f := by
        have e : cnW w 3 (i + 1) = cnW w 3 i + if w i = 3 then 1 else 0 := rfl
        rw [if_neg (by omega)] at e
        have m := cnW_mono w 3 (show i ≤ 4 * f by omega)
        have z := pw.2 3 (by omega)
        exact ⟨_, _, rfl, rfl, by omega⟩
      obtain ⟨A3, B3, a3, b3, s3⟩ := h3
      rw [a1, b1, a2, b2, a3, b3]
      have p : f ^ 3 = (A1 + B1) * (A2 + B2) * (A3 + B3) := by
        rw [s1, s2, s3]
        simp only [Nat.pow_succ, Nat.pow_zero, Nat.one_mul]
      rw [p]
      simp only [Nat.add_mul, Nat.mul_add, Nat.one_mul, Nat.mul_one]
      omega
    · simp only [if_neg c]
  have z : smN (fun i => if w i = 0 then f ^ 3 else 0) (4 * f) = f ^ 4 := by
    rw [smN_k, pw.2 0 (by omega)]
    rfl
  omega
theorem pd_pr {w : Nat → Nat} {L i a s : Nat} : ∀ k, (∀ j, j < k → j ≠ a → s.testBit j = true) → pdW w L i a s k = prN (fun e => cnW w e i) a k
  | 0, _ => rfl
  | k + 1, h => by
    show pdW w L i a s k * (if k = a then 1 else if s.testBit k = true then cnW w k i else _) = if k = a then prN (fun e => cnW w e i) a k else prN (fun e => cnW w e i) a k * cnW w k i
    rw [pd_pr k fun j hj => h j (by omega)]
    by_cases c : k = a
    · rw [if_pos c, if_pos c, Nat.mul_one]
    · rw [if_neg c, if_neg c, if_pos (h k (by omega) c)]
theorem prN_c {u v : Nat → Nat} {c : Nat} (h : ∀ e, u e = v e) : ∀ k, prN u c k = prN v c k
  | 0 => rfl
  | k + 1 => by
    show (if k = c then prN u c k else prN u c k * u k) = if k = c then prN v c k else prN v c k * v k
    rw [prN_c h k, h k]
theorem gr_sm {w : Nat → Nat} {n a : Nat} : ∀ L, gr n a (lstW w L) = smN (fun i => if w i = a then prN (fun e => cnW w e i) a n else 0) L
  | 0 => rfl
  | L + 1 => by
    show gr n a (lstW w L) + (if a = w L then prN (fun e => cn e (lstW w L)) (w L) n else 0) = smN (fun i => if w i = a then prN (fun e => cnW w e i) a n else 0) L + if w L = a then prN (fun e => cnW w e L) a n else 0
    rw [gr_sm L]
    by_cases c : w L = a
    · rw [if_pos c.symm, if_pos c, c, prN_c fun e => cn_lst w e L]
    · rw [if_neg fun z => c z.symm, if_neg c]
theorem gr_mono {w : Nat → Nat} {n a : Nat} : ∀ {j k : Nat}, j ≤ k → gr n a (lstW w j) ≤ gr n a (lstW w k) := fun {j k} h => by
  induction k with
  | zero => rw [show j = 0 by omega]; exact Nat.le_refl _
  | succ k ih =>
    by_cases c : j = k + 1
    · rw [c]; exact Nat.le_refl _
    · refine Nat.le_trans (ih (by omega)) ?_
      show gr n a (lstW w k) ≤ gr n a (lstW w k) + _
      omega
theorem gr_pl {n : Nat} (hn : 2 ≤ n ∧ n ≤ 4) (w : Nat → Nat) (L : Nat) {a : Nat} (ha : a < n) : gr n a (lstW w L) = plM w L n a (n - 1) := by
  have x : ∀ s, flL (fun s => decide (s.testBit a = false ∧ pcN s 12 = n - 1)) (2 ^ n) = [s] → (∀ j, j < n → j ≠ a → s.testBit j = true) → gr n a (lstW w L) = plM w L n a (n - 1) := fun s h1 h2 => by
    rw [pl_mS, h1, gr_sm]
    show _ = mS w L n a s + 0
    show _ = smN (fun i => if w i = a then pdW w L i a s n else 0) L
    refine smN_cg L fun i _ => ?_
    rw [pd_pr n h2]
  have hc : n = 2 ∨ n = 3 ∨ n = 4 := by omega
  rcases hc with z | z | z
  · subst z
    have ha' : a = 0 ∨ a = 1 := by omega
    rcases ha' with rfl | rfl
    · exact x 2 (by decide +kernel) (by decide)
    · exact x 1 (by decide +kernel) (by decide)
  · subst z
    have ha' : a = 0 ∨ a = 1 ∨ a = 2 := by omega
    rcases ha' with rfl | rfl | rfl
    · exact x 6 (by decide +kernel) (by decide)
    · exact x 5 (by decide +kernel) (by decide)
    · exact x 3 (by decide +kernel) (by decide)
  · subst z
    have ha' : a = 0 ∨ a = 1 ∨ a = 2 ∨ a = 3 := by omega
    rcases ha' with rfl | rfl | rfl | rfl
    · exact x 14 (by decide +kernel) (by decide)
    · exact x 13 (by decide +kernel) (by decide)
    · exact x 11 (by decide +kernel) (by decide)
    · exact x 7 (by decide +kernel) (by decide)
theorem flL_mem {P : Nat → Bool} {q : Nat} : ∀ n, q ∈ flL P n → q < n ∧ P q = true
  | 0, h => by cases h
  | n + 1, h => by
    change q ∈ flL P n ++ (if P n = true then [n] else []) at h
    rcases List.mem_append.mp h with z | z
    · have := flL_mem n z
      exact ⟨by omega, this.2⟩
    · by_cases c : P n = true
      · rw [if_pos c] at z
        have : q = n := List.mem_singleton.mp z
        rw [this]
        exact ⟨by omega, c⟩
      · rw [if_neg c] at z
        cases z
theorem sL_k {f : Nat → Nat} {R : Nat} : ∀ l : List Nat, (∀ q ∈ l, f q = R) → sL f l = l.length * R
  | [], _ => (Nat.zero_mul R).symm
  | a :: l, h => by
    show f a + sL f l = (l.length + 1) * R
    rw [h a (List.mem_cons_self ..), sL_k l fun q hq => h q (List.mem_cons_of_mem _ hq), Nat.add_mul, Nat.one_mul]
    omega
abbrev lsO (n d : Nat) : List Nat := flL (fun q => decide (isO n q ∧ q / 2 ^ (2 * (n - 1 - (n - 1))) % 4 = d)) (2 ^ (2 * n))
theorem lsO_len : (∀ d, d < 2 → (lsO 2 d).length = 1) ∧ (∀ d, d < 3 → (lsO 3 d).length = 2) ∧ ∀ d, d < 4 → (lsO 4 d).length = 6 := by decide +kernel
/-- however it is fair, each die is as often the greatest -/
theorem gd_top {n q L : Nat} (hn : 2 ≤ n ∧ n ≤ 4) (hq : q < 8) (h0 : q ≠ 0) {w : Nat → Nat} (g : gdM n L q w) : faT n (plM w L n) := by
  obtain ⟨g1, g2, g3⟩ := g
  by_cases c1 : q % 2 = 1
  · exact g1 c1
  by_cases c2 : q / 2 % 2 = 1
  · exact fun d hd => g2 c2 (n - 1) (by omega) d hd
  have c4 : 4 ≤ q := by omega
  have oe := (oe_eq hn w L).mp (g3 c4)
  intro d hd
  rw [← pl_eq hn w L hd (show n - 1 < n by omega), ← pl_eq hn w L (show 0 < n by omega) (show n - 1 < n by omega), plF_l (by omega) hn.2, plF_l (by omega) hn.2]
  have len : (lsO n d).length = (lsO n 0).length ∧ 1 ≤ (lsO n 0).length := by
    obtain ⟨l2, l3, l4⟩ := lsO_len
    have hc : n = 2 ∨ n = 3 ∨ n = 4 := by omega
    rcases hc with z | z | z <;> subst z
    · exact ⟨(l2 d hd).trans (l2 0 (by omega)).symm, by rw [l2 0 (by omega)]; omega⟩
    · exact ⟨(l3 d hd).trans (l3 0 (by omega)).symm, by rw [l3 0 (by omega)]; omega⟩
    · exact ⟨(l4 d hd).trans (l4 0 (by omega)).symm, by rw [l4 0 (by omega)]; omega⟩
  obtain ⟨q0, hq0⟩ : ∃ q0, q0 ∈ lsO n 0 := by
    cases e : lsO n 0 with
    | nil => rw [e] at len; exact absurd len.2 (by decide)
    | cons a l => exact ⟨a, List.mem_cons_self ..⟩
  have m0 := flL_mem _ hq0
  have R : ∀ d, ∀ x ∈ lsO n d, rwF n (wcR n (lstW w L)) x = rwF n (wcR n (lstW w L)) q0 := fun d x hx => by
    have m := flL_mem _ hx
    exact oe x q0 m.1 m0.1 (of_decide_eq_true m.2).1 (of_decide_eq_true m0.2).1
  rw [sL_k (lsO n d) (R d), sL_k (lsO n 0) (R 0), len.1]
theorem gd_ok {n f q wt : Nat} (hn : 2 ≤ n ∧ n ≤ 4) (hq : q < 8) (h0 : q ≠ 0) {w : Nat → Nat} (pw : wdP2 n f (n * f) w) (g : gdM n (n * f) q w) (j : Nat) (hj : j ≤ n * f) : okP n f q wt (lstW w j) := by
  have t := gd_top hn hq h0 g
  have tot : ∀ a, a < n → gr n a (lstW w (n * f)) * n = f ^ n := fun a ha => by
    rw [gr_pl hn w (n * f) ha, t a ha]
    have hc : n = 2 ∨ n = 3 ∨ n = 4 := by omega
    rcases hc with z | z | z <;> subst z
    · have s := (sums2 w (2 * f)).2.2.2
      rw [tot_f2 pw] at s
      have t1 := t 1 (by omega)
      change plM w (2 * f) 2 0 1 + plM w (2 * f) 2 1 1 = _ at s
      change plM w (2 * f) 2 1 1 = plM w (2 * f) 2 0 1 at t1
      show plM w (2 * f) 2 0 1 * 2 = _
      omega
    · have s := (sums3 w (3 * f)).2.2.2.2.2
      rw [tot_f3 pw] at s
      have t1 := t 1 (by omega)
      have t2 := t 2 (by omega)
      change plM w (3 * f) 3 1 2 = plM w (3 * f) 3 0 2 at t1
      change plM w (3 * f) 3 2 2 = plM w (3 * f) 3 0 2 at t2
      show plM w (3 * f) 3 0 2 * 3 = _
      omega
    · have s := (sums4 w (4 * f)).2.2.2.2.2.2.2
      rw [tot_f4 pw] at s
      have t1 := t 1 (by omega)
      have t2 := t 2 (by omega)
      have t3 := t 3 (by omega)
      change plM w (4 * f) 4 1 3 = plM w (4 * f) 4 0 3 at t1
      change plM w (4 * f) 4 2 3 = plM w (4 * f) 4 0 3 at t2
      change plM w (4 * f) 4 3 3 = plM w (4 * f) 4 0 3 at t3
      show plM w (4 * f) 4 0 3 * 4 = _
      omega
  show if q = 0 then _ else gsP n f (lstW w j)
  rw [if_neg h0]
  intro a ha
  rw [← tot a ha]
  exact Nat.mul_le_mul_right n (gr_mono hj)
