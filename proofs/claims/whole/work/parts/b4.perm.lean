/-! words of the same letters, in their order; the next word -/
/-- L letters of n dice, f of each -/
def wdP2 (n f L : Nat) (w : Nat → Nat) : Prop := (∀ i, i < L → w i < n) ∧ ∀ c, c < n → cnW w c L = f
theorem cnW_c {v w : Nat → Nat} {c : Nat} : ∀ k, (∀ i, i < k → v i = w i) → cnW v c k = cnW w c k
  | 0, _ => rfl
  | k + 1, h => by
    show cnW v c k + (if v k = c then 1 else 0) = cnW w c k + if w k = c then 1 else 0
    rw [cnW_c k fun i hi => h i (by omega), h k (by omega)]
/-- a letter of the rest is there -/
theorem cnW_ex {w : Nat → Nat} {c j : Nat} : ∀ L, cnW w c j < cnW w c L → ∃ t, j ≤ t ∧ t < L ∧ w t = c
  | 0, h => absurd h (Nat.not_lt_zero _)
  | L + 1, h => by
    change cnW w c j < cnW w c L + (if w L = c then 1 else 0) at h
    by_cases e : w L = c
    · by_cases hj : j ≤ L
      · exact ⟨L, hj, by omega, e⟩
      · have := cnW_mono w c (show L + 1 ≤ j by omega)
        have e2 : cnW w c (L + 1) = cnW w c L + (if w L = c then 1 else 0) := rfl
        omega
    · rw [if_neg e] at h
      obtain ⟨t, h1, h2, h3⟩ := cnW_ex L h
      exact ⟨t, h1, by omega, h3⟩
theorem cnW_lt {w : Nat → Nat} {c j L : Nat} (h1 : j < L) (h2 : w j = c) : cnW w c j < cnW w c L := by
  have := cnW_mono w c (show j + 1 ≤ L by omega)
  have e : cnW w c (j + 1) = cnW w c j + (if w j = c then 1 else 0) := rfl
  rw [if_pos h2] at e
  omega
/-- v is ahead of w: at the first letter that differs -/
def lxP (L : Nat) (v w : Nat → Nat) : Prop := ∃ j, j < L ∧ (∀ i, i < j → v i = w i) ∧ v j < w j
theorem lx_tri (v w : Nat → Nat) : ∀ L, lxP L v w ∨ lxP L w v ∨ ∀ i, i < L → v i = w i
  | 0 => Or.inr (Or.inr fun i hi => absurd hi (by omega))
  | L + 1 => by
    rcases lx_tri v w L with ⟨j, a, b, c⟩ | ⟨j, a, b, c⟩ | h
    · exact Or.inl ⟨j, by omega, b, c⟩
    · exact Or.inr (Or.inl ⟨j, by omega, b, c⟩)
    · by_cases c1 : v L < w L
      · exact Or.inl ⟨L, by omega, h, c1⟩
      · by_cases c2 : w L < v L
        · exact Or.inr (Or.inl ⟨L, by omega, fun i hi => (h i hi).symm, c2⟩)
        · refine Or.inr (Or.inr fun i hi => ?_)
          by_cases e : i = L
          · rw [e]; omega
          · exact h i (by omega)
/-- the word as a number -/
def vlW (w : Nat → Nat) : Nat → Nat
  | 0 => 0
  | k + 1 => vlW w k * 4 + w k
theorem vlW_c {v w : Nat → Nat} : ∀ k, (∀ i, i < k → v i = w i) → vlW v k = vlW w k
  | 0, _ => rfl
  | k + 1, h => by
    show vlW v k * 4 + v k = vlW w k * 4 + w k
    rw [vlW_c k fun i hi => h i (by omega), h k (by omega)]
theorem vlW_lt {v w : Nat → Nat} {L : Nat} (hv : ∀ i, i < L → v i ≤ 3) (h : lxP L v w) : vlW v L < vlW w L := by
  obtain ⟨j, h1, h2, h3⟩ := h
  have a : ∀ d, j + 1 + d ≤ L → vlW v (j + 1 + d) < vlW w (j + 1 + d) := fun d => by
    induction d with
    | zero =>
      intro _
      show vlW v j * 4 + v j < vlW w j * 4 + w j
      rw [vlW_c j h2]
      omega
    | succ d ih =>
      intro hd
      have := ih (by omega)
      have b := hv (j + 1 + d) (by omega)
      show vlW v (j + 1 + d) * 4 + v (j + 1 + d) < vlW w (j + 1 + d) * 4 + w (j + 1 + d)
      omega
  have := a (L - (j + 1)) (by omega)
  rw [show j + 1 + (L - (j + 1)) = L by omega] at this
  exact this
theorem vlW_b {w : Nat → Nat} : ∀ L, (∀ i, i < L → w i ≤ 3) → vlW w L < 4 ^ L
  | 0, _ => Nat.lt_of_lt_of_eq Nat.zero_lt_one rfl
  | L + 1, h => by
    have := vlW_b L fun i hi => h i (by omega)
    have := h L (by omega)
    show vlW w L * 4 + w L < 4 ^ (L + 1)
    rw [Nat.pow_succ]
    omega
theorem lx_irr {v w : Nat → Nat} {L : Nat} (h : lxP L v w) (e : ∀ i, i < L → v i = w i) : False := by
  obtain ⟨j, a, b, c⟩ := h
  have := e j a
  omega
/-- behind a descent, no word of the same letters comes later -/
theorem ds_max {v w : Nat → Nat} {n f L a : Nat} (pv : wdP2 n f L v) (pw : wdP2 n f L w) (hd : ∀ i j, a ≤ i → i ≤ j → j < L → w j ≤ w i) {j : Nat} (hj : j < L) (ha : a ≤ j) (hag : ∀ i, i < j → v i = w i) : ¬ w j < v j := fun c => by
  have c1 := cnW_lt (w := v) hj rfl
  rw [cnW_c j hag, pv.2 _ (pv.1 j hj), ← pw.2 _ (pv.1 j hj)] at c1
  obtain ⟨t, h1, h2, h3⟩ := cnW_ex L c1
  have := hd j t ha h1 h2
  omega
/-- behind an ascent, none comes earlier -/
theorem as_min {v w : Nat → Nat} {n f L a : Nat} (pv : wdP2 n f L v) (pw : wdP2 n f L w) (hd : ∀ i j, a ≤ i → i ≤ j → j < L → w i ≤ w j) {j : Nat} (hj : j < L) (ha : a ≤ j) (hag : ∀ i, i < j → v i = w i) : ¬ v j < w j := fun c => by
  have c1 := cnW_lt (w := v) hj rfl
  rw [cnW_c j hag, pv.2 _ (pv.1 j hj), ← pw.2 _ (pv.1 j hj)] at c1
  obtain ⟨t, h1, h2, h3⟩ := cnW_ex L c1
  have := hd j t ha h1 h2
  omega
theorem mono_of {w : Nat → Nat} {a L : Nat} (h : ∀ i, a ≤ i → i + 1 < L → w (i + 1) ≤ w i) : ∀ i j, a ≤ i → i ≤ j → j < L → w j ≤ w i := fun i j h1 h2 h3 => by
  induction j with
  | zero => rw [show i = 0 by omega]; exact Nat.le_refl _
  | succ j ih =>
    by_cases e : i = j + 1
    · rw [e]; exact Nat.le_refl _
    · have := ih (by omega) (by omega)
      have := h j (by omega) h3
      omega
/-- no next word: w is the last of its letters -/
theorem nx_none {v w : Nat → Nat} {n f L : Nat} (pv : wdP2 n f L v) (pw : wdP2 n f L w) (h : ∀ i, i + 1 < L → ¬ w i < w (i + 1)) : ¬ lxP L w v := by
  rintro ⟨j, a, b, c⟩
  exact ds_max (a := 0) pv pw (mono_of fun i _ h2 => by have := h i h2; omega) a (by omega) (fun i hi => (b i hi).symm) c
/-- counts of the letters from a on -/
theorem cn_split {w : Nat → Nat} {c a : Nat} : ∀ d, cnW w c (a + d) = cnW w c a + cnW (fun j => w (a + j)) c d
  | 0 => rfl
  | d + 1 => by
    show cnW w c (a + d) + (if w (a + d) = c then 1 else 0) = cnW w c a + (cnW (fun j => w (a + j)) c d + if w (a + d) = c then 1 else 0)
    rw [cn_split d]
    omega
theorem cn_first {w : Nat → Nat} {c : Nat} (d : Nat) : cnW w c (d + 1) = (if w 0 = c then 1 else 0) + cnW (fun j => w (1 + j)) c d := by
  rw [show d + 1 = 1 + d by omega, cn_split (a := 1) d]
  show (0 + (if w 0 = c then 1 else 0)) + _ = _
  rw [Nat.zero_add]
theorem cn_rev {w : Nat → Nat} {c : Nat} : ∀ d, cnW (fun j => w (d - 1 - j)) c d = cnW w c d
  | 0 => rfl
  | d + 1 => by
    rw [cn_first]
    show (if w (d + 1 - 1 - 0) = c then 1 else 0) + cnW (fun j => w (d + 1 - 1 - (1 + j))) c d = cnW w c d + if w d = c then 1 else 0
    rw [show d + 1 - 1 - 0 = d by omega, show (fun j => w (d + 1 - 1 - (1 + j))) = fun j => w (d - 1 - j) from funext fun j => by rw [show d + 1 - 1 - (1 + j) = d - 1 - j by omega], cn_rev d]
    omega
theorem cn_sw {w : Nat → Nat} {c a b : Nat} (hab : a < b) : ∀ L, cnW (swW w a b) c L = if L ≤ a then cnW w c L else if L ≤ b then cnW w c L + (if w b = c then 1 else 0) - (if w a = c then 1 else 0) else cnW w c L
  | 0 => by rw [if_pos (by omega)]; rfl
  | L + 1 => by
    have e : cnW (swW w a b) c (L + 1) = cnW (swW w a b) c L + if swW w a b L = c then 1 else 0 := rfl
    have e2 : cnW w c (L + 1) = cnW w c L + if w L = c then 1 else 0 := rfl
    have sv : swW w a b L = if L = b then w a else if L = a then w b else w L := rfl
    rw [e, cn_sw hab L, sv, e2]
    by_cases h1 : L + 1 ≤ a
    · rw [if_pos (show L ≤ a by omega), if_pos h1, if_neg (show ¬ L = b by omega), if_neg (show ¬ L = a by omega)]
    · by_cases h2 : L = a
      · rw [if_pos (show L ≤ a by omega), if_neg h1, if_pos (show L + 1 ≤ b by omega), if_neg (show ¬ L = b by omega), if_pos h2, h2]
        omega
      · by_cases h3 : L + 1 ≤ b
        · rw [if_neg (show ¬ L ≤ a by omega), if_pos (show L ≤ b by omega), if_neg h1, if_pos h3, if_neg (show ¬ L = b by omega), if_neg h2]
          have := cnW_mono w c (show a + 1 ≤ L by omega)
          have e3 : cnW w c (a + 1) = cnW w c a + if w a = c then 1 else 0 := rfl
          omega
        · by_cases h4 : L = b
          · rw [if_neg (show ¬ L ≤ a by omega), if_pos (show L ≤ b by omega), if_neg h1, if_neg h3, if_pos h4, h4]
            have := cnW_mono w c (show a + 1 ≤ b by omega)
            have e3 : cnW w c (a + 1) = cnW w c a + if w a = c then 1 else 0 := rfl
            omega
          · rw [if_neg (show ¬ L ≤ a by omega), if_neg (show ¬ L ≤ b by omega), if_neg h1, if_neg h3, if_neg h4, if_neg h2]
theorem nx_cn {w : Nat → Nat} {c i k L : Nat} (h1 : i < k) (h2 : k < L) : cnW (nxW w i k L) c L = cnW w c L := by
  have e1 : cnW (nxW w i k L) c (i + 1) = cnW (swW w i k) c (i + 1) := cnW_c _ fun j hj => if_pos (by omega)
  have s1 := cn_split (w := nxW w i k L) (c := c) (a := i + 1) (L - (i + 1))
  have s2 := cn_split (w := swW w i k) (c := c) (a := i + 1) (L - (i + 1))
  rw [show i + 1 + (L - (i + 1)) = L by omega] at s1 s2
  have e2 : cnW (fun j => nxW w i k L (i + 1 + j)) c (L - (i + 1)) = cnW (fun j => swW w i k (i + 1 + j)) c (L - (i + 1)) := by
    rw [← cn_rev (w := fun j => swW w i k (i + 1 + j))]
    refine cnW_c _ fun j hj => ?_
    show (if i + 1 + j ≤ i then swW w i k (i + 1 + j) else swW w i k (L + i - (i + 1 + j))) = swW w i k (i + 1 + (L - (i + 1) - 1 - j))
    rw [if_neg (by omega), show L + i - (i + 1 + j) = i + 1 + (L - (i + 1) - 1 - j) by omega]
  rw [s1, e1, e2, ← s2, cn_sw h1, if_neg (by omega), if_neg (by omega)]
/-- the next word: of the same letters, behind w, none between -/
theorem nx_some {w : Nat → Nat} {n f L i k : Nat} (pw : wdP2 n f L w) (h1 : i + 1 < L) (h2 : w i < w (i + 1)) (h3 : ∀ j, i < j → j + 1 < L → ¬ w j < w (j + 1)) (h4 : i < k) (h5 : k < L) (h6 : w i < w k) (h7 : ∀ j, k < j → j < L → ¬ w i < w j) : wdP2 n f L (nxW w i k L) ∧ lxP L w (nxW w i k L) ∧ ∀ v, wdP2 n f L v → ¬ lxP L w v ∨ ¬ lxP L v (nxW w i k L) := by
  have pn : wdP2 n f L (nxW w i k L) := by
    refine ⟨fun j hj => ?_, fun c hc => by rw [nx_cn h4 h5]; exact pw.2 c hc⟩
    have sb : ∀ t, t < L → swW w i k t < n := fun t ht => by
      unfold swW
      split
      · exact pw.1 i (by omega)
      · split
        · exact pw.1 k h5
        · exact pw.1 t ht
    unfold nxW
    split
    · exact sb j hj
    · exact sb _ (by omega)
  have ni : nxW w i k L i = w k := by
    show (if i ≤ i then (if i = k then w i else if i = i then w k else w i) else _) = w k
    rw [if_pos (Nat.le_refl i), if_neg (by omega), if_pos rfl]
  have nb : ∀ j, j < i → nxW w i k L j = w j := fun j hj => by
    show (if j ≤ i then (if j = k then w i else if j = i then w k else w j) else _) = w j
    rw [if_pos (by omega), if_neg (by omega), if_neg (by omega)]
  have dw : ∀ a b, i + 1 ≤ a → a ≤ b → b < L → w b ≤ w a := mono_of fun t ht1 ht2 => by
    have := h3 t (by omega) ht2
    omega
  -- what is turned round descends
  have ds : ∀ a b, i + 1 ≤ a → a ≤ b → b < L → swW w i k b ≤ swW w i k a := by
    refine mono_of fun t ht1 ht2 => ?_
    have d1 := dw t (t + 1) ht1 (by omega) ht2
    show (if t + 1 = k then w i else if t + 1 = i then w k else w (t + 1)) ≤ (if t = k then w i else if t = i then w k else w t)
    rw [if_neg (show ¬ t + 1 = i by omega), if_neg (show ¬ t = i by omega)]
    by_cases c1 : t + 1 = k
    · rw [if_pos c1, if_neg (by omega)]
      rw [c1] at d1
      omega
    · by_cases c2 : t = k
      · rw [if_neg c1, if_pos c2]
        have := h7 (t + 1) (by omega) ht2
        omega
      · rw [if_neg c1, if_neg c2]
        exact d1
  have as : ∀ a b, i + 1 ≤ a → a ≤ b → b < L → nxW w i k L a ≤ nxW w i k L b := fun a b ha hab hb => by
    show (if a ≤ i then _ else swW w i k (L + i - a)) ≤ (if b ≤ i then _ else swW w i k (L + i - b))
    rw [if_neg (by omega), if_neg (by omega)]
    exact ds _ _ (by omega) (by omega) (by omega)
  refine ⟨pn, ⟨i, by omega, fun j hj => (nb j hj).symm, by rw [ni]; exact h6⟩, fun v pv => ?_⟩
  by_cases c : lxP L w v
  · right
    rintro ⟨t, t1, t2, t3⟩
    obtain ⟨j, j1, j2, j3⟩ := c
    have hji : j ≤ i := by
      by_cases z : j ≤ i
      · exact z
      · exact absurd j3 (ds_max (a := i + 1) pv pw dw j1 (by omega) fun s hs => (j2 s hs).symm)
    by_cases e : j = i
    · subst e
      -- v's letter at j is among those behind
      have c1 := cnW_lt (w := v) j1 rfl
      rw [cnW_c j (fun s hs => (j2 s hs).symm), pv.2 _ (pv.1 j j1), ← pw.2 _ (pv.1 j j1)] at c1
      obtain ⟨s, s1, s2, s3⟩ := cnW_ex L c1
      have sk : s ≤ k := Classical.byContradiction fun z => h7 s (by omega) s2 (by omega)
      have sj : s ≠ j := fun z => by rw [z] at s3; omega
      have ws := dw s k (by omega) sk h5
      by_cases tj : t < j
      · have := t2
        rw [nb t tj] at t3
        have := j2 t tj
        omega
      · by_cases tj2 : t = j
        · rw [tj2, ni] at t3
          omega
        · exact as_min (a := j + 1) pv pn as t1 (by omega) t2 t3
    · by_cases tj : t < j
      · rw [nb t (by omega)] at t3
        have := j2 t tj
        omega
      · by_cases tj2 : t = j
        · rw [tj2, nb j (by omega)] at t3
          omega
        · have := t2 j (by omega)
          rw [nb j (by omega)] at this
          omega
  · exact Or.inl c
