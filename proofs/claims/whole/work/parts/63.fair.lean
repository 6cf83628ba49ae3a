/-! FAIR as bits; how many rows there can be -/
def allN (p : Nat → Bool) : Nat → Bool
  | 0 => true
  | n + 1 => allN p n && p n
theorem allN_iff {p : Nat → Bool} : ∀ {n : Nat}, allN p n = true ↔ ∀ i, i < n → p i = true
  | 0 => ⟨fun _ i hi => absurd hi (by omega), fun _ => rfl⟩
  | n + 1 => by
    show (allN p n && p n) = true ↔ _
    rw [Bool.and_eq_true, allN_iff]
    constructor
    · rintro ⟨a, b⟩ i hi
      by_cases c : i = n
      · rw [c]; exact b
      · exact a i (by omega)
    · exact fun z => ⟨fun i hi => z i (by omega), z n (by omega)⟩
def faAb (n : Nat) (p : Nat → Nat) : Bool := allN (fun d => p (4 * d + (n - 1)) == p (4 * 0 + (n - 1))) n
def faBb (n : Nat) (p : Nat → Nat) : Bool := allN (fun d => allN (fun e => p (4 * d + e) == p (4 * d + 0)) n) n
def oeB (n : Nat) (s : wcS) : Bool := allN (fun a => allN (fun b => !(decide (isO n a ∧ isO n b)) || rwF n s a == rwF n s b) (2 ^ (2 * n))) (2 ^ (2 * n))
theorem faAb_iff {n : Nat} {p : Nat → Nat} : faAb n p = true ↔ faA n p := by
  unfold faAb faA
  rw [allN_iff]
  exact ⟨fun z d hd => beq_iff_eq.mp (z d hd), fun z d hd => beq_iff_eq.mpr (z d hd)⟩
theorem faBb_iff {n : Nat} {p : Nat → Nat} : faBb n p = true ↔ faB n p := by
  unfold faBb faB
  rw [allN_iff]
  exact ⟨fun z d hd e he => beq_iff_eq.mp (allN_iff.mp (z d hd) e he), fun z d hd => allN_iff.mpr fun e he => beq_iff_eq.mpr (z d hd e he)⟩
theorem oeB_iff {n : Nat} {s : wcS} : oeB n s = true ↔ oeP n s := by
  unfold oeB oeP
  rw [allN_iff]
  constructor
  · intro z a b ha hb h1 h2
    have := allN_iff.mp (z a ha) b hb
    rw [decide_eq_true ⟨h1, h2⟩] at this
    simpa using this
  · intro z a ha
    refine allN_iff.mpr fun b hb => ?_
    by_cases c : isO n a ∧ isO n b
    · rw [z a b ha hb c.1 c.2]
      simp
    · rw [decide_eq_false c]
      rfl
/-- FAIR of what has been taken, as bits -/
def fbN (n : Nat) (s : wcS) : Nat := (if faAb n (plF n s) then 1 else 0) + (if faBb n (plF n s) then 2 else 0) + (if oeB n s then 4 else 0)
/-- letters taken, the latest first -/
def wcR (n : Nat) : List Nat → wcS
  | [] => (fun _ => 0, fun _ => 0, fun _ => 0, fun _ => 0)
  | c :: r => wcT n c (wcR n r)
theorem upF_le {m c : Nat} {a b : Nat → Nat} {A B : Nat} (ha : ∀ q, a q ≤ A) (hb : ∀ q, b q ≤ B) (q : Nat) : upF m c a b q ≤ A + B := by
  unfold upF
  have := ha q
  have := hb (q / 4)
  split <;> omega
theorem wcR_le {n : Nat} : ∀ r : List Nat, (∀ q, (wcR n r).1 q ≤ r.length) ∧ (∀ q, (wcR n r).2.1 q ≤ r.length ^ 2) ∧ (∀ q, (wcR n r).2.2.1 q ≤ r.length ^ 3) ∧ ∀ q, (wcR n r).2.2.2 q ≤ r.length ^ 4
  | [] => ⟨fun _ => Nat.le_refl _, fun _ => Nat.zero_le _, fun _ => Nat.zero_le _, fun _ => Nat.zero_le _⟩
  | c :: r => by
    obtain ⟨h1, h2, h3, h4⟩ := wcR_le (n := n) r
    have g : ∀ k : Nat, r.length ^ (k + 1) + r.length ^ k ≤ (r.length + 1) ^ (k + 1) := fun k => by
      rw [Nat.pow_succ, Nat.pow_succ]
      have : r.length ^ k ≤ (r.length + 1) ^ k := Nat.pow_le_pow_left (by omega) k
      calc r.length ^ k * r.length + r.length ^ k = r.length ^ k * (r.length + 1) := by rw [Nat.mul_add, Nat.mul_one]
        _ ≤ (r.length + 1) ^ k * (r.length + 1) := Nat.mul_le_mul_right _ this
    have m : ∀ k : Nat, r.length ^ (k + 1) ≤ (r.length + 1) ^ (k + 1) := fun k => Nat.pow_le_pow_left (by omega) _
    refine ⟨fun q => ?_, fun q => ?_, fun q => ?_, fun q => ?_⟩
    · show (if q = c then (wcR n r).1 q + 1 else (wcR n r).1 q) ≤ r.length + 1
      have := h1 q
      split <;> omega
    · refine Nat.le_trans (upF_le h2 h1 q) ?_
      have := g 1
      rw [Nat.pow_one] at this
      exact this
    · show (if 3 ≤ n then upF 3 c (wcR n r).2.2.1 (wcR n r).2.1 else (wcR n r).2.2.1) q ≤ _
      split
      · exact Nat.le_trans (upF_le h3 h2 q) (g 2)
      · exact Nat.le_trans (h3 q) (m 2)
    · show (if 4 ≤ n then upF 4 c (wcR n r).2.2.2 (wcR n r).2.2.1 else (wcR n r).2.2.2) q ≤ _
      split
      · exact Nat.le_trans (upF_le h4 h3 q) (g 3)
      · exact Nat.le_trans (h4 q) (m 3)
theorem smN_le {f : Nat → Nat} {b : Nat} (h : ∀ i, f i ≤ b) : ∀ n, smN f n ≤ n * b
  | 0 => Nat.zero_le _
  | n + 1 => by
    show smN f n + f n ≤ _
    have := smN_le h n
    have := h n
    rw [Nat.add_mul, Nat.one_mul]
    omega
theorem wcR_b {n : Nat} {r : List Nat} (hl : r.length ≤ 24) (hn : n ≤ 4) : (∀ q, rwF n (wcR n r) q ≤ 400000) ∧ ∀ i, plF n (wcR n r) i ≤ 1000000000 := by
  obtain ⟨h1, h2, h3, h4⟩ := wcR_le (n := n) r
  have a2 : r.length ^ 2 ≤ 24 ^ 2 := Nat.pow_le_pow_left hl 2
  have a3 : r.length ^ 3 ≤ 24 ^ 3 := Nat.pow_le_pow_left hl 3
  have a4 : r.length ^ 4 ≤ 24 ^ 4 := Nat.pow_le_pow_left hl 4
  have hr : ∀ q, rwF n (wcR n r) q ≤ 400000 := fun q => by
    have := h2 q
    have := h3 q
    have := h4 q
    unfold rwF
    split
    · omega
    · split <;> omega
  refine ⟨hr, fun i => ?_⟩
  unfold plF
  split
  · have := smN_le (f := plT n (wcR n r) i) (b := 400000) (fun q => by
      unfold plT
      split
      · exact hr q
      · omega) (2 ^ (2 * n))
    have := (p4_b hn).1
    omega
  · omega
theorem fbN_lt (n : Nat) (s : wcS) : fbN n s < 8 := by
  unfold fbN
  split <;> split <;> split <;> omega
theorem t_fairnessN {d : Nat} {h : Hp} {w n : Nat} {r : List Nat} {Q : Nat → Option Value → Hp → Prop} (hw : wcC h w n (wcR n r)) (hn : 2 ≤ n ∧ n ≤ 4) (hl : r.length ≤ 24)
    (hq : ∀ h', fi (fun q => q = w + 5) h h' → (∀ i, i < 16 → zI h' (w + 5) i = iI (plF n (wcR n r) i)) → Q 0 (some (.int (iI (fbN n (wcR n r))))) h') : PR (d + 2) m_WordCount_fairness [.ref w] h Q := by
  obtain ⟨b1, b2⟩ := wcR_b hl hn.2
  refine t_fairness hw hn (fun q => Nat.le_trans (b1 q) (by omega)) b2 fun a b c ha hb hc h' f hI => ?_
  have := hq h' f hI
  have ea : faAb n (plF n (wcR n r)) = a := Bool.eq_iff_iff.mpr (faAb_iff.trans ha.symm)
  have eb : faBb n (plF n (wcR n r)) = b := Bool.eq_iff_iff.mpr (faBb_iff.trans hb.symm)
  have ec : oeB n (wcR n r) = c := Bool.eq_iff_iff.mpr (oeB_iff.trans hc.symm)
  unfold fbN at this
  rw [ea, eb, ec] at this
  unfold fv
  cases a <;> cases b <;> cases c <;> exact this
